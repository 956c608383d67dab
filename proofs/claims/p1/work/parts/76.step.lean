/-! frames of both sides, the tally after a word -/
def RC (m lo : Nat) (h k : Hp) : Prop := ∀ a, m ≤ a → a < lo → hK k a = hK h a ∧ hN k a = hN h a ∧ (∀ f, hI k f a = hI h f a ∧ hR k f a = hR h f a) ∧ ∀ j, hA k a j = hA h a j ∧ hQ k a j = hQ h a j ∧ hL k a j = hL h a j
theorem RC.refl (m lo : Nat) (h : Hp) : RC m lo h h := fun _ _ _ => ⟨rfl, rfl, fun _ => ⟨rfl, rfl⟩, fun _ => ⟨rfl, rfl, rfl⟩⟩
theorem RC.trans {m lo : Nat} {h k l : Hp} (A : RC m lo h k) (B : RC m lo k l) : RC m lo h l := fun a h1 h2 => by
  obtain ⟨a1, a2, a3, a4⟩ := A a h1 h2
  obtain ⟨b1, b2, b3, b4⟩ := B a h1 h2
  exact ⟨by rw [b1, a1], by rw [b2, a2], fun f => ⟨by rw [(b3 f).1, (a3 f).1], by rw [(b3 f).2, (a3 f).2]⟩, fun j => ⟨by rw [(b4 j).1, (a4 j).1], by rw [(b4 j).2.1, (a4 j).2.1], by rw [(b4 j).2.2, (a4 j).2.2]⟩⟩
theorem RC.of {P : Nat → Nat → Prop} {m lo : Nat} {h k : Hp} (A : Fr P h k) (lT : lo ≤ hT h) (n : ∀ f a, m ≤ a → a < lo → ¬ P f a) : RC m lo h k := fun a h1 h2 => by
  obtain ⟨a1, a2, a3, a4⟩ := A.2 a (by omega)
  exact ⟨a1, a2, fun f => a3 f (n f a h1 h2), fun j => a4 (n _ a h1 h2) j⟩
def RR (m : Nat) (h k : Hp) : Prop := (hT k = hT h ∧ hU k = hU h ∧ hK k = hK h ∧ hN k = hN h ∧ hR k = hR h ∧ hQ k = hQ h) ∧ (∀ f a, ¬ a = m → hI k f a = hI h f a) ∧ (∀ a j, ¬ (m ≤ a ∧ a ≤ m + 28) → hA k a j = hA h a j) ∧ (∀ a j, ¬ a = m + 1 → hL k a j = hL h a j)
theorem RR.refl (m : Nat) (h : Hp) : RR m h h := ⟨⟨rfl, rfl, rfl, rfl, rfl, rfl⟩, fun _ _ _ => rfl, fun _ _ _ => rfl, fun _ _ _ => rfl⟩
theorem RR.trans {m : Nat} {h k l : Hp} (A : RR m h k) (B : RR m k l) : RR m h l := by
  obtain ⟨⟨a1, a2, a3, a4, a5, a6⟩, a7, a8, a9⟩ := A
  obtain ⟨⟨b1, b2, b3, b4, b5, b6⟩, b7, b8, b9⟩ := B
  exact ⟨⟨b1.trans a1, b2.trans a2, b3.trans a3, b4.trans a4, b5.trans a5, b6.trans a6⟩, fun f a z => (b7 f a z).trans (a7 f a z), fun a j z => (b8 a j z).trans (a8 a j z), fun a j z => (b9 a j z).trans (a9 a j z)⟩
theorem RR.of {m : Nat} {I A : Nat → Prop} {h k : Hp} (R : Rf m I A h k) (n : ∀ a, A a → m ≤ a ∧ a ≤ m + 28) : RR m h k := by
  obtain ⟨⟨a1, a2, a3, a4, a5, a6, a7⟩, a8, a9⟩ := R
  exact ⟨⟨a1, a2, a3, a4, a5, a6⟩, fun f a z => a8 f a (fun y => z y.1), fun a j z => a9 a j (fun y => z (n a y)), fun a j _ => by rw [a7]⟩
/-- what a word may change in the class, but for what is on its way -/
def PZ (x lo : Nat) (h : Hp) (f a : Nat) : Prop := (lo ≤ a ∧ hK h a = 9 ∧ (f = 512 ∨ (516 ≤ f ∧ f ≤ 522))) ∨ (lo ≤ a ∧ hK h a = 8 ∧ 450 ≤ f ∧ f ≤ 454) ∨ (lo ≤ a ∧ hK h a = 100 ∧ f = 9999) ∨ a = x + 11 ∨ (x + 15 ≤ a ∧ a ≤ x + 38 ∧ ((387 ≤ f ∧ f ≤ 391) ∨ ((a - x) % 3 = 2 ∧ f = 9999)))
theorem Fr.tr2 {P Q : Nat → Nat → Prop} {h k l : Hp} (A : Fr P h k) (B : Fr Q k l) (im : ∀ f a, a < hT h → Q f a → P f a) : Fr P h l := by
  refine ⟨Nat.le_trans A.1 B.1, fun a ha => ?_⟩
  have hk := A.1
  obtain ⟨a1, a2, a3, a4⟩ := A.2 a ha
  obtain ⟨b1, b2, b3, b4⟩ := B.2 a (by omega)
  exact ⟨b1.trans a1, b2.trans a2, fun f n => ⟨(b3 f (fun y => n (im f a ha y))).1.trans (a3 f n).1, (b3 f (fun y => n (im f a ha y))).2.trans (a3 f n).2⟩, fun n j => ⟨(b4 (fun y => n (im _ a ha y)) j).1.trans (a4 n j).1, (b4 (fun y => n (im _ a ha y)) j).2.1.trans (a4 n j).2.1, (b4 (fun y => n (im _ a ha y)) j).2.2.trans (a4 n j).2.2⟩⟩
theorem PZ.tr {x lo : Nat} {h k l : Hp} (A : Fr (PZ x lo h) h k) (B : Fr (PZ x lo k) k l) : Fr (PZ x lo h) h l := A.tr2 B (fun f a ha y => by
  unfold PZ at y ⊢
  rw [(A.2 a ha).1] at y
  exact y)
theorem PZ.pg {x lo : Nat} {h k l : Hp} (A : Fr (PZ x lo h) h k) (B : Fr (PG k x lo) k l) : Fr (PZ x lo h) h l := A.tr2 B (fun f a ha y => by
  have e := (A.2 a ha).1
  unfold PG PW at y
  rw [e] at y
  unfold PZ
  omega)
theorem PZ.rws {h k : Hp} {x lo : Nat} {tg : Nat → Nat} {Z : RowT} (R : Rws h x lo tg Z) (C : Cd h x) (A : Fr (PZ x lo h) h k) (hx : x + 38 < hT h) (lx : x + 38 < lo) : Rws k x lo tg Z := by
  have k6 := C.k_tally
  refine R.fr A hx (fun y => ?_) (fun y => ?_) (fun a f h1 h2 h3 h4 y => ?_) (fun u hu y => ?_) (fun y => ?_) (fun a f h1 h2 h3 h4 y => ?_)
  · unfold PZ at y; omega
  · unfold PZ at y; omega
  · rcases y with y | y | y | y | y
    · omega
    · omega
    · omega
    · rw [y] at h2; omega
    · omega
  · unfold PZ at y; omega
  · unfold PZ at y; omega
  · rcases y with y | y | y | y | y
    · omega
    · omega
    · omega
    · rw [y] at h2; omega
    · omega
theorem PZ.spr {h k : Hp} {x lo : Nat} {tg : Nat → Nat} {sp : List Nat} (S : Spr h x lo tg sp) (C : Cd h x) (A : Fr (PZ x lo h) h k) (hx : x + 38 < hT h) (lx : x + 38 < lo) : Spr k x lo tg sp := by
  have k6 := C.k_tally
  refine S.fr A hx (fun y => ?_) (fun a f h1 h2 h3 h4 y => ?_)
  · unfold PZ at y; omega
  · rcases y with y | y | y | y | y
    · omega
    · omega
    · omega
    · rw [y] at h2; omega
    · omega
theorem PZ.ca {h k : Hp} {x lo : Nat} {S : Cs} (I : CaIs h x S) (A : Fr (PZ x lo h) h k) (hx : x + 38 < hT h) (lx : x + 38 < lo) : CaIs k x S := by
  refine I.fr A hx (fun y => ?_) (fun y => ?_) (fun y => ?_) (fun y => ?_) <;> (unfold PZ at y; omega)
/-- with what is on its way -/
def PY (x lo : Nat) (h : Hp) (f a : Nat) : Prop := PZ x lo h f a ∨ PM x h f a
theorem PY.z {x lo : Nat} {h k : Hp} (A : Fr (PZ x lo h) h k) : Fr (PY x lo h) h k := A.mono (fun _ _ _ y => Or.inl y)
theorem PY_no {x lo m : Nat} {h : Hp} {f a : Nat} (nK : ∀ a, m ≤ a → a < lo → 12 ≤ hK h a) (xm : x + 38 < m) (lT : lo ≤ hT h) (h1 : m ≤ a) (h2 : a < lo) : ¬ PY x lo h f a := fun y => by
  have k := nK a h1 h2
  rcases y with y | y
  · unfold PZ at y; omega
  · unfold PM PA at y; omega
/-- tally and unit after a word, in the class and in the reference -/
def TmC (hc hm : Hp) (x u : Nat) (dm g d390 d391 : Int32) : Prop := (hI hm 327 (x + 11) = hI hc 327 (x + 11) + 1) ∧ (hI hm 328 (x + 11) = hI hc 328 (x + 11) + nI (cn (bt dm) 32)) ∧ (hI hm 329 (x + 11) = hI hc 329 (x + 11) + (if dm = g then 0 else 1)) ∧ (∀ f, ¬ f = 327 → ¬ f = 328 → ¬ f = 329 → hI hm f (x + 11) = hI hc f (x + 11)) ∧ (hI hm 389 (x + 15 + 3 * u) = hI hc 389 (x + 15 + 3 * u) + 1) ∧ (hI hm 390 (x + 15 + 3 * u) = d390) ∧ (hI hm 391 (x + 15 + 3 * u) = d391) ∧ (hI hm 388 (x + 15 + 3 * u) = hI hc 388 (x + 15 + 3 * u)) ∧ (∀ f u2, u2 < 8 → ¬ u2 = u → hI hm f (x + 15 + 3 * u2) = hI hc f (x + 15 + 3 * u2)) ∧ (∀ f, hI hm f (x + 1) = hI hc f (x + 1))
def TmR (H kr : Hp) (m u nd : Nat) (pt d390 d391 : Int32) : Prop := (hI kr 720 m = hI H 720 m + 1) ∧ (hI kr 721 m = hI H 721 m + nI nd) ∧ (hI kr 722 m = hI H 722 m + pt) ∧ (∀ f, (705 ≤ f ∧ f ≤ 719) ∨ (726 ≤ f ∧ f ≤ 730) → hI kr f m = hI H f m) ∧ (∀ t, t < 8 → hA kr (m + 8) t = if t = u then hA H (m + 8) u + 1 else hA H (m + 8) t) ∧ (∀ t, t < 8 → hA kr (m + 5) t = if t = u then d390 else hA H (m + 5) t) ∧ (∀ t, t < 8 → hA kr (m + 6) t = if t = u then d391 else hA H (m + 6) t) ∧ (∀ t, hA kr (m + 7) t = hA H (m + 7) t)
theorem Ty.go {hc hm kc H kr : Hp} {x m lo u nd : Nat} {dm g pt d390 d391 : Int32} (T : Ty hc H x m) (C : TmC hc hm x u dm g d390 d391) (A : Fr (PG hm x lo) hm kc) (hx : x + 38 < hT hm) (lx : x + 38 < lo) (R : TmR H kr m u nd pt d390 d391) (e1 : cn (bt dm) 32 = nd) (e2 : (if dm = g then (0 : Int32) else 1) = pt) (e3 : hI kc 324 (x + 11) = hI kr 725 m) : Ty kc kr x m := by
  obtain ⟨c1, c2, c3, c4, c5, c6, c7, c8, c9, c10⟩ := C
  obtain ⟨r1, r2, r3, r4, r5, r6, r7, r8⟩ := R
  have tI : ∀ f, ¬ f = 324 → hI kc f (x + 11) = hI hm f (x + 11) := fun f nf => ((A.2 (x + 11) (by omega)).2.2.1 f (fun y => by have := PG_np y; omega)).1
  have uI : ∀ f u2, u2 < 8 → ¬ f = 387 → hI kc f (x + 15 + 3 * u2) = hI hm f (x + 15 + 3 * u2) := fun f u2 h8 nf => ((A.2 (x + 15 + 3 * u2) (by omega)).2.2.1 f (fun y => by have := PG_np y; omega)).1
  refine ⟨fun j hj => ?_, e3, ?_, ?_, fun j hj => ?_, fun j hj => ?_, fun t ht => ?_⟩
  · rw [((A.2 (x + 1) (by omega)).2.2.1 (64 + j) (fun y => by have := PG_np y; omega)).1, c10, T.sz j hj, r4 _ (by omega)]
  · rw [tI _ (by omega), c4 _ (by omega) (by omega) (by omega), T.cy, r4 _ (by omega)]
  · rw [tI _ (by omega), c4 _ (by omega) (by omega) (by omega), T.al, r4 _ (by omega)]
  · rw [tI _ (by omega)]
    match j, hj with
    | 0, _ => show hI hm 327 _ = hI kr 720 m; rw [c1, r1]; exact congrArg (· + 1) (T.wd 0 (by omega))
    | 1, _ => show hI hm 328 _ = hI kr 721 m; rw [c2, r2, e1]; exact congrArg (· + nI nd) (T.wd 1 (by omega))
    | 2, _ => show hI hm 329 _ = hI kr 722 m; rw [c3, r3, e2]; exact congrArg (· + pt) (T.wd 2 (by omega))
  · rw [tI _ (by omega), c4 _ (by omega) (by omega) (by omega), T.tr j hj, r4 _ (by omega)]
  · obtain ⟨u1, u2, u3, u4⟩ := T.un t ht
    rw [uI _ _ ht (by omega), uI _ _ ht (by omega), uI _ _ ht (by omega), uI _ _ ht (by omega), r8, r5 t ht, r6 t ht, r7 t ht]
    by_cases z : t = u
    · subst z
      rw [if_pos rfl, if_pos rfl, if_pos rfl, c5, c6, c7, c8, u1, u2]
      exact ⟨rfl, rfl, rfl, rfl⟩
    · rw [if_neg z, if_neg z, if_neg z, c9 _ _ ht z, c9 _ _ ht z, c9 _ _ ht z, c9 _ _ ht z]
      exact ⟨u1, u2, u3, u4⟩
theorem pt_eq {P Q : Nat → Bool} {dm g : Int32} (h1 : ∀ i, i < 32 → bt g i = P i) (h2 : ∀ i, i < 32 → bt dm i = Q i) (sub : ∀ i, i < 32 → bt dm i = true → bt g i = true) : (if dm = g then (0 : Int32) else 1) = if nI (cn P 32) ≤ nI (cn Q 32) then 0 else 1 := by
  have e1 : cn P 32 = cn (bt g) 32 := cn_congr 32 fun i hi => (h1 i hi).symm
  have e2 : cn Q 32 = cn (bt dm) 32 := cn_congr 32 fun i hi => (h2 i hi).symm
  have l1 := cn_le (bt g) 32
  have l2 := cn_le (bt dm) 32
  obtain ⟨a1, a2⟩ := cn_sub_eq sub
  rw [e1, e2]
  by_cases z : dm = g
  · rw [if_pos z, if_pos (by rw [z]; exact i_le_refl _)]
  · rw [if_neg z, if_neg (fun y => z ?_)]
    have y2 := (nI_leI (by omega) (by omega)).mp y
    have a3 := a2.mp (by omega)
    refine b_ext fun i hi => ?_
    cases k : bt g i with
    | true => exact a3 i hi k
    | false =>
      cases k2 : bt dm i with
      | false => rfl
      | true => rw [sub i hi k2] at k; cases k
theorem Sm.next {P : Nat → Nat → Prop} {I A2 : Nat → Prop} {o : Nat → Nat} {hc H kc kr : Hp} {x m lo ln sl nu bk ga sz c pc G U0 nC Ta pc2 G2 Ta2 d : Nat} (S : Sm o hc H x m lo ln sl nu bk ga sz c pc G U0 nC Ta) (X : Sx o kc kr x m lo ln sl) (T : Ty kc kr x m) (F : Fr P hc kc) (R : Rf m I A2 H kr) (p1 : ¬ P 9999 (x + 4)) (p2 : ¬ P 131 (x + 3)) (p3 : ¬ P 9999 (x + 13)) (p4 : ∀ u, u < 8 → ¬ P 9999 (x + 16 + 3 * u)) (p5 : ∀ a, lo ≤ a → a < hT hc → hK hc a = 9 → ¬ P 524 a) (i1 : ∀ f, I f → 720 ≤ f ∨ f = 715) (a1 : ¬ A2 (m + 2)) (lt : ∀ u, u < 8 → ∃ l, l < sl ∧ hA kr (m + 7) u = nI l) (ca : CaIs kc x (cs0 kr m)) (gb : GB (cs0 kr m) G2) (P2 : Pn kc kr x m lo sz pc2 Ta2) (t1 : hT kc = hT hc + d) (t2 : hU kc ≤ hU hc + 512 * d) (t3 : Ta2 = Ta + d) (t4 : Ta2 ≤ 4096) : Sm o kc kr x m lo ln sl nu bk ga sz c pc2 G2 U0 nC Ta2 := by
  have hx := S.X.hx
  have ml := S.ml
  have lh := S.lh
  have rI : ∀ f, 705 ≤ f → f ≤ 719 → ¬ f = 715 → hI kr f m = hI H f m := fun f h1 h2 h3 => R.i (fun y => by have := i1 f y; omega)
  refine ⟨R.md S.M, S.xm, S.ml, by omega, fun a h1 h2 => by rw [(F.2 a (by omega)).1]; exact S.nK a h1 h2, X, ?_, T, fun p hp => ?_, ?_, fun p h1 h2 => ?_, ca, gb, lt, by rw [rI _ (by omega) (by omega) (by omega)]; exact S.cy, P2, ?_⟩
  · have Z := S.Z
    exact ⟨by rw [rI _ (by omega) (by omega) (by omega)]; exact Z.ln, by rw [rI _ (by omega) (by omega) (by omega)]; exact Z.sl, by rw [rI _ (by omega) (by omega) (by omega)]; exact Z.nu, by rw [rI _ (by omega) (by omega) (by omega)]; exact Z.bk, by rw [rI _ (by omega) (by omega) (by omega)]; exact Z.ga, by rw [rI _ (by omega) (by omega) (by omega)]; exact Z.sz, Z.lp, Z.s1, Z.u1, Z.bp, Z.g1, Z.i1⟩
  · rw [((F.2 (x + 4) (by omega)).2.2.2 p1 p).1, R.a a1]
    exact S.mm p hp
  · rw [((F.2 (x + 3) (by omega)).2.2.1 131 p2).1]
    exact S.ms
  · rw [R.a a1]
    exact S.mz p h1 h2
  · obtain ⟨l1, l2, l3⟩ := S.lg
    have e := PT.fr S.X.S F hx p3 p4 p5
    refine ⟨by rw [e]; omega, by omega, t4⟩
