/-! every slot free: a fresh state -/
def PLL (x lo : Nat) (h : Hp) (f a : Nat) : Prop := (f = 512 ∧ lo ≤ a ∧ hK h a = 9) ∨ (f = 450 ∧ lo ≤ a ∧ hK h a = 8) ∨ hK h a = 11 ∨ (a = x + 8 ∧ 258 ≤ f ∧ f ≤ 259) ∨ (f = 9999 ∧ (a = x + 9 ∨ a = x + 10 ∨ a = x + 4 ∨ a = x + 6 ∨ a = x + 7)) ∨ (a = x + 1 ∧ 64 ≤ f ∧ f ≤ 69) ∨ (a = x + 3 ∧ f = 131) ∨ (a = x + 5 ∧ 194 ≤ f ∧ f ≤ 195) ∨ (a = x + 11 ∧ 320 ≤ f ∧ f ≤ 333) ∨ (386 ≤ f ∧ f ≤ 391 ∧ x + 15 ≤ a ∧ a ≤ x + 38)
theorem cn_true {P : Nat → Bool} : ∀ n, (∀ i, i < n → P i = true) → cn P n = n := by
  intro n
  induction n with
  | zero => intro _; rfl
  | succ n ih => intro q; rw [cn_snoc, ih (fun i hi => q i (by omega)), if_pos (q n (by omega))]
theorem Cd.n11 {h : Hp} {x a : Nat} (C : Cd h x) (h1 : x ≤ a) (h2 : a ≤ x + 38) (n : ¬ a = x + 14) : ¬ hK h a = 11 := fun y => by have := C.st h1 h2 n; omega
theorem PT.weak {P : Nat → Nat → Prop} {o : Nat → Nat} {hc H kc : Hp} {x m lo ln sl nn bk ga sz : Nat} (V : VW o hc H x m lo ln sl nn bk ga sz) (A : Fr P hc kc) (n1 : ¬ P 9999 (x + 13)) (n2 : ∀ u, u < 8 → ¬ P 9999 (x + 16 + 3 * u)) (n3 : ∀ a, lo ≤ a → a < hT hc → hK hc a = 9 → ¬ P 524 a) : PT kc x = PT hc x := by
  obtain ⟨C, _, _, _, _, _, M, Z, SL, BL, us, hx, lx, Kk, nf, lh, uf⟩ := V
  have e1 : cn (potB kc x) 64 = cn (potB hc x) 64 := cn_congr 64 fun b _ => by
    unfold potB
    rw [((A.2 (x + 13) (by omega)).2.2.2 n1 b).2.1]
  have e2 : sumN (potS kc x) 128 = sumN (potS hc x) 128 := sumN_congr 128 fun s hs => by
    unfold potS
    rw [((A.2 (x + 16 + 3 * (s / 16)) (by omega)).2.2.2 (n2 _ (by omega)) (s % 16)).2.1]
    rcases SL s hs with ⟨z, _⟩ | ⟨w, rg, pl, ro, pr, ti, L, z, W, _⟩
    · rw [z]
    · rw [z]
      dsimp only
      rw [((A.2 w W.bw.2).2.2.1 524 (n3 w W.bw.1 W.bw.2 W.k)).2, W.r_pl]
      dsimp only
      rw [(A.2 pl W.b_pl.2).2.1]
  unfold PT
  rw [e1, e2]
theorem PT.gh {lo : Nat} {hg hc : Hp} {x : Nat} (g : Gh lo hg hc) : PT hc x = PT hg x := by
  obtain ⟨⟨a1, a2, a3, a4, a5, a6, a7⟩, a8, a9⟩ := g
  have e1 : potB hc x = potB hg x := funext fun b => by unfold potB; rw [a6]
  have e2 : potS hc x = potS hg x := funext fun s => by
    unfold potS
    rw [a6]
    cases hQ hg (x + 16 + 3 * (s / 16)) (s % 16) with
    | none => rfl
    | some w =>
      dsimp only
      rw [a9 524 w (fun y => by omega), a4]
  unfold PT
  rw [e1, e2]
theorem VW.fresh {o : Nat → Nat} {hc kc H K : Hp} {x m lo ln sl nn bk ga sz ln2 sl2 nn2 bk2 ga2 sz2 c2 G2 U0 nC Ta2 : Nat} (V : VW o hc H x m lo ln sl nn bk ga sz) (nK : ∀ a, m ≤ a → a < lo → 12 ≤ hK hc a) (xm : x + 38 < m) (ml : m + 28 < lo) (A : Fr (PLL x lo hc) hc kc) (tT : hT kc = hT hc) (M2 : Md K m) (eL : ∀ k, k < 128 → hL K (m + 1) k = hL H (m + 1) k) (f5 : ∀ t w, t < 128 → hQ kc (x + 16 + 3 * (t / 16)) (t % 16) = some w → hR kc 512 w = none) (f6 : ∀ b bl, b < 64 → hQ kc (x + 13) b = some bl → hR kc 450 bl = none) (us2 : ∀ u, u < 8 → hI kc 386 (x + 15 + 3 * u) = nI sl2) (uf2 : ∀ u, u < 8 → hI kc 387 (x + 15 + 3 * u) = nI sl2) (f9 : ∀ t, t < 128 → hA K (m + 9) t = -1) (Z2 : Sz K m ln2 sl2 nn2 bk2 ga2 sz2) (T2 : Ty kc K x m) (mm2 : ∀ p, p < sz2 → hA kc (x + 4) p = hA K (m + 2) p) (ms2 : hI kc 131 (x + 3) = nI sz2) (mz2 : ∀ p, sz2 ≤ p → p < 4096 → hA K (m + 2) p = 0) (ca2 : CaIs kc x (cs0 K m)) (gb2 : GB (cs0 K m) G2) (lt2 : ∀ u, u < 8 → ∃ l, l < sl2 ∧ hA K (m + 7) u = nI l) (cy2 : hI K 719 m = nI c2) (P2 : Pn kc K x m lo sz2 c2 Ta2) (lg : Lg kc x lo U0 nC Ta2) : Sm o kc K x m lo ln2 sl2 nn2 bk2 ga2 sz2 c2 c2 G2 U0 nC Ta2 := by
  obtain ⟨C, _, _, _, _, _, M, Z, SL, BL, us, hx, lx, Kk, nf, lh, uf⟩ := V
  have ks := fun a => C.n11 (a := a)
  have q : ∀ a, a = x + 2 ∨ a = x + 12 ∨ a = x + 13 ∨ (∃ u, u < 8 ∧ a = x + 16 + 3 * u) → ∀ j, hQ kc a j = hQ hc a j := fun a h j => by
    have r : x ≤ a ∧ a ≤ x + 38 ∧ ¬ a = x + 14 ∧ ¬ a = x + 9 ∧ ¬ a = x + 10 ∧ ¬ a = x + 4 ∧ ¬ a = x + 6 ∧ ¬ a = x + 7 := by
      rcases h with h | h | h | ⟨u, h1, h⟩ <;> omega
    have := ks a r.1 r.2.1 r.2.2.1
    exact ((A.2 a (by omega)).2.2.2 (fun z => by unfold PLL at z; omega) j).2.1
  have C2 : Cd kc x := by
    have k0 := ks x (by omega) (by omega) (by omega)
    have k3 := ks (x + 3) (by omega) (by omega) (by omega)
    have k5 := ks (x + 5) (by omega) (by omega) (by omega)
    have k8 := ks (x + 8) (by omega) (by omega) (by omega)
    have k12 := ks (x + 12) (by omega) (by omega) (by omega)
    refine C.frame A hx (fun f _ z => by unfold PLL at z; omega) (fun f _ _ z => by unfold PLL at z; omega) (fun f _ _ z => by unfold PLL at z; omega) (fun f _ _ z => by unfold PLL at z; omega) (fun z => by unfold PLL at z; omega) (fun u f _ _ _ z => ?_)
    have ku := ks (x + 15 + 3 * u) (by omega) (by omega) (by omega)
    unfold PLL at z
    omega
  have K2 : Kn kc K x m := fun k hk => by
    obtain ⟨y, y1, y2, y3⟩ := Kk k hk
    have yk := y3.k
    refine ⟨y, by rw [q _ (Or.inl rfl)]; exact y1, by omega, ?_⟩
    rw [eL k hk]
    exact y3.same (A.2 y y2).1 (fun f h1 h2 => ((A.2 y y2).2.2.1 f (fun z => by unfold PLL at z; omega)).1)
  have S2 : ∀ t, t < 128 → SlotOk o kc K x m lo ln2 t := fun t ht => by
    have qt := q (x + 16 + 3 * (t / 16)) (Or.inr (Or.inr (Or.inr ⟨t / 16, by omega, rfl⟩))) (t % 16)
    rcases SL t ht with ⟨z, _⟩ | ⟨w, rg, pl, ro, pr, ti, L, z, W, e, _⟩
    · exact Or.inl ⟨qt.trans z, f9 t ht⟩
    · exact Or.inr ⟨w, rg, pl, ro, pr, ti, L, qt.trans z, W.fr A.1 (fun a h1 h2 _ _ h5 => ⟨(A.2 a h2).1, (A.2 a h2).2.1, fun f h3 h4 => ((A.2 a h2).2.2.1 f (fun y => by unfold PLL at y; omega)).2⟩), e, Or.inl ⟨f5 t w ht (qt.trans z), f9 t ht⟩⟩
  have B2 : ∀ b, b < 64 → BlockOk o kc K x m lo b := fun b hb => by
    have qb := q (x + 13) (Or.inr (Or.inr (Or.inl rfl))) b
    have nb : ∀ s, s < 128 → ¬ hA K (m + 9) s = nI b := fun s hs y => by rw [f9 s hs] at y; exact nI_m1 (by omega) y.symm
    rcases BL b hb with ⟨z, _⟩ | ⟨bl, bi, z1, ⟨z2, z3, z4, z5, z6⟩, ⟨y1, y2, y3, y4, y5, y6⟩, _⟩
    · exact Or.inl ⟨qb.trans z, nb⟩
    · have a1 := A.2 bl z6
      have a2 := A.2 bi y6
      refine Or.inr ⟨bl, bi, qb.trans z1, ⟨a1.1.trans z2, by rw [(a1.2.2.1 448 (fun y => by unfold PLL at y; omega)).1]; exact z3, z4, z5, by omega⟩, ⟨by rw [(a1.2.2.1 449 (fun y => by unfold PLL at y; omega)).2]; exact y1, a2.1.trans y2, a2.2.1.trans y3, y4, y5, by omega⟩, Or.inl ⟨f6 b bl hb (qb.trans z1), nb⟩⟩
  refine ⟨M2, xm, ml, by omega, fun a h1 h2 => by rw [(A.2 a (by omega)).1]; exact nK a h1 h2, ⟨C2, K2, by omega, lx, us2, Z2.s1.2, Z2.ln, Z2.l32, S2, B2, fun t ht n => absurd (f9 t ht) n, fun u hu => ?_⟩, Z2, T2, mm2, ms2, mz2, ca2, gb2, lt2, cy2, P2, lg⟩
  rw [uf2 u hu]
  have s16 := Z2.s1.2
  exact congrArg nI (cn_true sl2 fun i hi => decide_eq_true (f9 _ (by omega))).symm
