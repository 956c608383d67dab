/-! what slots and blocks don't see; choosing -/
def PN (x : Nat) (h : Hp) (f a : Nat) : Prop := a = x + 11 ∨ (x + 15 ≤ a ∧ a ≤ x + 38 ∧ 388 ≤ f ∧ f ≤ 391) ∨ a = x + 1 ∨ (a = x + 3 ∧ f = 131) ∨ ((a = x + 4 ∨ a = x + 6 ∨ a = x + 7 ∨ a = x + 9 ∨ a = x + 10) ∧ f = 9999) ∨ (a = x + 5 ∧ (f = 194 ∨ f = 195)) ∨ (a = x + 8 ∧ (f = 258 ∨ f = 259)) ∨ hT h ≤ a ∨ hK h a = 11 ∨ (x + 15 ≤ a ∧ a ≤ x + 38 ∧ (a - x) % 3 = 2 ∧ f = 9999)
theorem Sx.fr {o : Nat → Nat} {hc H kc kr : Hp} {x m lo ln sl : Nat} (X : Sx o hc H x m lo ln sl) (A : Fr (PN x hc) hc kc) (rI : ∀ f, f = 705 ∨ f = 717 ∨ f = 716 → hI kr f m = hI H f m) (rA : ∀ a j, (m + 9) ≤ a → a ≤ (m + 18) → hA kr a j = hA H a j) (eL : ∀ k, k < 128 → hL kr (m + 1) k = hL H (m + 1) k) : Sx o kc kr x m lo ln sl := by
  have C := X.C
  have hx := X.hx
  have lx := X.lx
  have hT1 := A.1
  have kst : ∀ a, x ≤ a → a ≤ x + 38 → ¬ a = x + 14 → ¬ hK hc a = 11 := fun a h1 h2 h3 y => by have := C.st h1 h2 h3; omega
  have k1 := C.k_sizes
  have k6 := C.k_tally
  have nW : ∀ y f, y < hT hc → hK hc y = 10 → 576 ≤ f → f ≤ 590 → ¬ PN x hc f y := fun y f h1 h2 h3 h4 z => by
    rcases z with z | z | z | z | z | z | z | z | z | z
    · rw [z] at h2; omega
    · omega
    · rw [z] at h2; omega
    · omega
    · omega
    · omega
    · omega
    · omega
    · omega
    · omega
  have R : ∀ t, Rs m t H kr := fun t => ⟨⟨rI _ (Or.inl rfl), rI _ (Or.inr (Or.inl rfl))⟩, ⟨rA _ _ (by omega) (by omega), rA _ _ (by omega) (by omega), rA _ _ (by omega) (by omega)⟩, fun r _ => rA _ _ (by omega) (by omega), fun i _ => ⟨rA _ _ (by omega) (by omega), rA _ _ (by omega) (by omega), rA _ _ (by omega) (by omega), rA _ _ (by omega) (by omega)⟩, fun j _ => rA _ _ (by omega) (by omega)⟩
  have sb : ∀ t, hA kr (m + 9) t = hA H (m + 9) t := fun t => rA _ _ (by omega) (by omega)
  have n2 : ¬ PN x hc 9999 (x + 2) := fun z => by have := kst (x + 2) (by omega) (by omega) (by omega); unfold PN at z; omega
  have n13 : ¬ PN x hc 9999 (x + 13) := fun z => by have := kst (x + 13) (by omega) (by omega) (by omega); unfold PN at z; omega
  have uI : ∀ u f, u < 8 → f = 386 ∨ f = 387 → hI kc f (x + 15 + 3 * u) = hI hc f (x + 15 + 3 * u) := fun u f hu hf => ((A.2 (x + 15 + 3 * u) (by omega)).2.2.1 f (fun z => by have := kst (x + 15 + 3 * u) (by omega) (by omega) (by omega); unfold PN at z; omega)).1
  refine ⟨C.frame A hx (fun f _ z => ?_) (fun f _ _ z => ?_) (fun f _ _ z => ?_) (fun f _ _ z => ?_) (fun z => ?_) (fun u f _ _ _ z => ?_), fun k hk => ?_, by omega, lx, fun u hu => ?_, X.s16, by rw [rI _ (Or.inl rfl)]; exact X.hl, X.l32, fun t ht => ?_, fun c hc2 => ?_, fun t ht z => X.nf t ht (by rw [← sb]; exact z), fun u hu => ?_⟩
  · have := kst x (by omega) (by omega) (by omega); unfold PN at z; omega
  · have := kst (x + 3) (by omega) (by omega) (by omega); unfold PN at z; omega
  · have := kst (x + 5) (by omega) (by omega) (by omega); unfold PN at z; omega
  · have := kst (x + 8) (by omega) (by omega) (by omega); unfold PN at z; omega
  · have := kst (x + 12) (by omega) (by omega) (by omega); unfold PN at z; omega
  · have := kst (x + 15 + 3 * u) (by omega) (by omega) (by omega); unfold PN at z; omega
  · obtain ⟨y, y1, y2, y3⟩ := X.K k hk
    have a1 := A.2 y y2
    refine ⟨y, by rw [((A.2 (x + 2) (by omega)).2.2.2 n2 k).2.1]; exact y1, by omega, ?_⟩
    rw [eL k hk]
    exact y3.same a1.1 (fun f h1 h2 => (a1.2.2.1 f (nW y f y2 y3.k h1 h2)).1)
  · rw [uI u _ hu (Or.inl rfl)]
    exact X.us u hu
  · refine (X.S t ht).fr X.K X.l32 (CsS.of A hx ht (fun z => ?_) n13 n2 (fun a f h1 h2 _ _ h5 z => ?_) nW) (R t)
    · have := kst (x + 16 + 3 * (t / 16)) (by omega) (by omega) (by omega); unfold PN at z; omega
    · unfold PN at z; omega
  · refine (X.B c hc2).fr hT1 (((A.2 (x + 13) (by omega)).2.2.2 n13 c).2.1) (fun a h1 h2 _ h4 => ?_) (fun t _ => by rw [sb]) (rI _ (Or.inr (Or.inr rfl))) (rI _ (Or.inr (Or.inl rfl))) (cnt_rs (fun t _ => R t)).1 (cnt_rs (fun t _ => R t)).2 (fun k _ => rA _ _ (by omega) (by omega))
    obtain ⟨a1, a2, a3, a4⟩ := A.2 a h2
    exact ⟨a1, a2, fun f _ _ => a3 f (fun z => by unfold PN at z; omega), fun j => (a4 (fun z => by unfold PN at z; omega) j).1⟩
  · rw [uI u _ hu (Or.inr rfl), X.uf u hu]
    exact congrArg nI (cn_congr sl fun k _ => by rw [sb])
/-- the reference has looked at slots -/
theorem Sm.pick {o : Nat → Nat} {hc H H2 : Hp} {x m lo ln sl nu bk ga sz c pc G U0 nC Ta u j : Nat} (S : Sm o hc H x m lo ln sl nu bk ga sz c pc G U0 nC Ta) (R : Scr m H H2) (hu : u < 8) (hj : j < sl) : Sm o (sI hc 388 (x + 15 + 3 * u) (nI j)) (sA H2 (m + 7) u (nI j)) x m lo ln sl nu bk ga sz c pc G U0 nC Ta := by
  have X := S.X
  have T := S.T
  have hx := X.hx
  have kI : ∀ f, ¬ (756 ≤ f ∧ f ≤ 762) → hI (sA H2 (m + 7) u (nI j)) f m = hI H f m := fun f n => by rw [qI_sA, R.i n]
  have kA : ∀ a i, ¬ ((m + 25) ≤ a ∧ a ≤ (m + 28)) → ¬ a = m + 7 → hA (sA H2 (m + 7) u (nI j)) a i = hA H a i := fun a i n n2 => by rw [qA_sA, if_neg (fun z => n2 z.1), R.a n]
  have k7 : ∀ t, hA (sA H2 (m + 7) u (nI j)) (m + 7) t = if t = u then nI j else hA H (m + 7) t := fun t => by
    rw [qA_sA, R.a (by omega)]
    by_cases z : t = u
    · rw [if_pos z, if_pos ⟨rfl, z⟩]
    · rw [if_neg z, if_neg (fun y => z y.2)]
  have cI : ∀ f a, ¬ (f = 388 ∧ a = x + 15 + 3 * u) → hI (sI hc 388 (x + 15 + 3 * u) (nI j)) f a = hI hc f a := fun f a z => by rw [qI_sI, if_neg z]
  have FN : Fr (PN x hc) hc (sI hc 388 (x + 15 + 3 * u) (nI j)) := (Fr.refl hc).cI (Or.inr (Or.inl (by omega)))
  have FZ : Fr (PZ x lo hc) hc (sI hc 388 (x + 15 + 3 * u) (nI j)) := (Fr.refl hc).cI (Or.inr (Or.inr (Or.inr (Or.inr (by omega)))))
  have X2 := X.fr (kr := sA H2 (m + 7) u (nI j)) FN (fun f hf => kI f (by omega)) (fun a i h1 h2 => kA a i (by omega) (by omega)) (fun k _ => by rw [qL_sA, R.1.2.2.2.2.2.2])
  have RT : Rf m (fun f => 756 ≤ f ∧ f ≤ 762) (fun a => ((m + 25) ≤ a ∧ a ≤ (m + 28)) ∨ a = m + 7) H (sA H2 (m + 7) u (nI j)) := (R.mono (fun f z => z) (fun a z => Or.inl z)).cA (Or.inr rfl)
  have T2 : Ty (sI hc 388 (x + 15 + 3 * u) (nI j)) (sA H2 (m + 7) u (nI j)) x m := by
    refine ⟨fun j hj => ?_, ?_, ?_, ?_, fun j hj => ?_, fun j hj => ?_, fun t ht => ?_⟩
    · rw [cI _ _ (by omega), kI _ (by omega)]; exact T.sz j hj
    · rw [cI _ _ (by omega), kI _ (by omega)]; exact T.en
    · rw [cI _ _ (by omega), kI _ (by omega)]; exact T.cy
    · rw [cI _ _ (by omega), kI _ (by omega)]; exact T.al
    · rw [cI _ _ (by omega), kI _ (by omega)]; exact T.wd j hj
    · rw [cI _ _ (by omega), kI _ (by omega)]; exact T.tr j hj
    · obtain ⟨u1, u2, u3, u4⟩ := T.un t ht
      rw [cI 389 _ (by omega), cI 390 _ (by omega), cI 391 _ (by omega), k7, kA _ _ (by omega) (by omega), kA _ _ (by omega) (by omega), kA _ _ (by omega) (by omega)]
      refine ⟨?_, u2, u3, u4⟩
      by_cases z : t = u
      · rw [if_pos z, z, qI_sI, if_pos ⟨rfl, rfl⟩]
      · rw [if_neg z, cI _ _ (by omega)]; exact u1
  have ec : cs0 (sA H2 (m + 7) u (nI j)) m = cs0 H m := by
    unfold cs0
    rw [kI _ (by omega), kI _ (by omega), show hA (sA H2 (m + 7) u (nI j)) (m + 3) = hA H (m + 3) from funext fun j => kA _ _ (by omega) (by omega), show hA (sA H2 (m + 7) u (nI j)) (m + 4) = hA H (m + 4) from funext fun j => kA _ _ (by omega) (by omega)]
  have P2 : Pn (sI hc 388 (x + 15 + 3 * u) (nI j)) (sA H2 (m + 7) u (nI j)) x m lo sz pc Ta := S.P.step (fun tg Z2 RZ => PZ.rws RZ X.C FZ hx X.lx) (fun tg sp SZ => PZ.spr SZ X.C FZ hx X.lx) (fun L2 PL => PL.same (kI _ (by omega)) (kI _ (by omega)) (fun a j h1 h2 => kA _ _ (by omega) (by omega))) (cI _ _ (by omega)) (fun r Q => Q.same (kI _ (by omega)) (kI _ (by omega)) (kA _ _ (by omega) (by omega)) (kA _ _ (by omega) (by omega)) (kA _ _ (by omega) (by omega)) (kA _ _ (by omega) (by omega)))
  have lx := X.lx
  refine S.next (d := 0) X2 T2 FZ RT (fun y => ?_) (fun y => ?_) (fun y => ?_) (fun u2 h8 y => ?_) (fun a h1 h2 h3 y => ?_) (fun f hf => by omega) (by omega) (fun u2 h8 => ?_) (by rw [ec]; exact PZ.ca S.ca FZ hx lx) (by rw [ec]; exact S.gb) P2 rfl (Nat.le_refl _) rfl S.lg.2.2
  · unfold PZ at y; omega
  · unfold PZ at y; omega
  · unfold PZ at y; omega
  · unfold PZ at y; omega
  · unfold PZ at y; omega
  · rw [k7]
    by_cases z : u2 = u
    · rw [if_pos z]; exact ⟨j, hj, rfl⟩
    · rw [if_neg z]; exact S.lt u2 h8
theorem Sm.scr {o : Nat → Nat} {hc H H2 : Hp} {x m lo ln sl nu bk ga sz c pc G U0 nC Ta : Nat} (S : Sm o hc H x m lo ln sl nu bk ga sz c pc G U0 nC Ta) (R : Scr m H H2) : Sm o hc H2 x m lo ln sl nu bk ga sz c pc G U0 nC Ta := by
  have X := S.X
  have T := S.T
  have hx := X.hx
  have kI : ∀ f, ¬ (756 ≤ f ∧ f ≤ 762) → hI H2 f m = hI H f m := fun f n => R.i n
  have kA : ∀ a i, ¬ ((m + 25) ≤ a ∧ a ≤ (m + 28)) → hA H2 a i = hA H a i := fun a i n => R.a n i
  have X2 := X.fr (kr := H2) (Fr.refl hc) (fun f hf => kI f (by omega)) (fun a i h1 h2 => kA a i (by omega)) (fun k _ => by rw [R.1.2.2.2.2.2.2])
  have T2 : Ty hc H2 x m := by
    refine ⟨fun j hj => ?_, ?_, ?_, ?_, fun j hj => ?_, fun j hj => ?_, fun t ht => ?_⟩
    · rw [kI _ (by omega)]; exact T.sz j hj
    · rw [kI _ (by omega)]; exact T.en
    · rw [kI _ (by omega)]; exact T.cy
    · rw [kI _ (by omega)]; exact T.al
    · rw [kI _ (by omega)]; exact T.wd j hj
    · rw [kI _ (by omega)]; exact T.tr j hj
    · rw [kA _ _ (by omega), kA _ _ (by omega), kA _ _ (by omega), kA _ _ (by omega)]
      exact T.un t ht
  have ec : cs0 H2 m = cs0 H m := by
    unfold cs0
    rw [kI _ (by omega), kI _ (by omega), show hA H2 (m + 3) = hA H (m + 3) from funext fun j => kA _ _ (by omega), show hA H2 (m + 4) = hA H (m + 4) from funext fun j => kA _ _ (by omega)]
  have P2 : Pn hc H2 x m lo sz pc Ta := S.P.step (fun tg Z2 RZ => RZ) (fun tg sp SZ => SZ) (fun L2 PL => PL.same (kI _ (by omega)) (kI _ (by omega)) (fun a j h1 h2 => kA _ _ (by omega))) rfl (fun r Q => Q.same (kI _ (by omega)) (kI _ (by omega)) (kA _ _ (by omega)) (kA _ _ (by omega)) (kA _ _ (by omega)) (kA _ _ (by omega)))
  have lx := X.lx
  refine S.next (P := fun _ _ => False) (d := 0) X2 T2 (Fr.refl hc) R id id id (fun _ _ y => y) (fun _ _ _ _ y => y) (fun f hf => by omega) (by omega) (fun u2 h8 => ?_) (by rw [ec]; exact S.ca) (by rw [ec]; exact S.gb) P2 rfl (Nat.le_refl _) rfl S.lg.2.2
  rw [kA _ _ (by omega)]
  exact S.lt u2 h8
theorem sl_iff {o : Nat → Nat} {hc H : Hp} {x m lo ln sl u j : Nat} {c : Nat} (X : Sx o hc H x m lo ln sl) (T : Ty hc H x m) (hcy : hI H 719 m = nI c) (cl : c < 2 ^ 30) (hu : u < 8) (hj : j < 16) : cSl hc (x + 15 + 3 * u) (x + 16 + 3 * u) j (nI c) ↔ rRdy H m u (16 * u + j) ln := by
  have e1 : (16 * u + j) / 16 = u := by omega
  have e2 : (16 * u + j) % 16 = j := by omega
  have no : hA H (m + 9) (16 * u + j) = -1 → ¬ rRdy H m u (16 * u + j) ln := fun z y => y.1 z
  have S := X.S (16 * u + j) (by omega)
  unfold SlotOk at S
  rw [e1, e2] at S
  rcases S with ⟨z1, z2⟩ | ⟨w, rg, pl, ro, pr, ti, L, z1, W, e, z3⟩
  · refine ⟨fun ⟨w, y, _⟩ => ?_, fun y => absurd y (no z2)⟩
    unfold bz at y
    rw [z1] at y
    cases y
  · rcases z3 with ⟨z3, z4⟩ | ⟨b, bl, B, G⟩
    · refine ⟨fun ⟨w2, y, _⟩ => ?_, fun y => absurd y (no z4)⟩
      unfold bz at y
      rw [z1] at y
      dsimp only at y
      rw [z3] at y
      cases y
    · obtain ⟨u1, u2, u3, u4⟩ := T.un u hu
      have r := ready_iff (c := nI c) B G X.K X.l32 hcy (nI_pos' (by omega)) u3 u4
      refine ⟨fun ⟨w2, y1, y2⟩ => ?_, fun y => ⟨w, bz_some z1 B.blk, r.mpr y⟩⟩
      rw [bz_some z1 B.blk] at y1
      injection y1 with y1
      subst y1
      exact r.mp y2
