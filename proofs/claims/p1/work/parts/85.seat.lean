/-! seats -/
theorem SlotOk.tag {o o2 : Nat → Nat} {hc hr : Hp} {x m lo ln s : Nat} (S : SlotOk o hc hr x m lo ln s) (e : ∀ a, a < hT hc → o2 a = o a) : SlotOk o2 hc hr x m lo ln s := by
  rcases S with z | ⟨w, rg, pl, ro, pr, ti, L, z1, W, e2, z3⟩
  · exact Or.inl z
  · refine Or.inr ⟨w, rg, pl, ro, pr, ti, L, z1, ?_, e2, z3⟩
    exact ⟨W.k, W.l32, by rw [e w W.bw.2]; exact W.tw, W.bw, W.r_rg, W.k_rg, W.n_rg, by rw [e rg W.b_rg.2]; exact W.t_rg, W.b_rg, W.r_pl, W.k_pl, W.n_pl, by rw [e pl W.b_pl.2]; exact W.t_pl, W.b_pl, W.r_ro, W.k_ro, W.n_ro, by rw [e ro W.b_ro.2]; exact W.t_ro, W.b_ro, W.r_pr, W.k_pr, W.n_pr, by rw [e pr W.b_pr.2]; exact W.t_pr, W.b_pr, W.r_ti, W.k_ti, W.n_ti, by rw [e ti W.b_ti.2]; exact W.t_ti, W.b_ti⟩
theorem BlockOk.tag {o o2 : Nat → Nat} {hc hr : Hp} {x m lo b : Nat} (S : BlockOk o hc hr x m lo b) (e : ∀ a, a < hT hc → o2 a = o a) : BlockOk o2 hc hr x m lo b := by
  rcases S with z | ⟨bl, bi, z1, ⟨k1, k2, k3, k4, k5⟩, ⟨i1, i2, i3, i4, i5, i6⟩, z3⟩
  · exact Or.inl z
  · exact Or.inr ⟨bl, bi, z1, ⟨k1, k2, by rw [e bl k5]; exact k3, k4, k5⟩, ⟨i1, i2, i3, by rw [e bi i6]; exact i4, i5, i6⟩, z3⟩
/-- what the dispatcher may change -/
def PD (x lo : Nat) (h : Hp) (f a : Nat) : Prop := hT h ≤ a ∨ (lo ≤ a ∧ (hK h a = 8 ∨ hK h a = 9 ∨ hK h a = 100)) ∨ (a = x + 13 ∧ f = 9999) ∨ (x + 15 ≤ a ∧ a ≤ x + 38 ∧ (f = 387 ∨ (f = 9999 ∧ (a - x) % 3 = 1))) ∨ (a = x + 11 ∧ f = 323)
theorem PD.tr {x lo : Nat} {h k l : Hp} (A : Fr (PD x lo h) h k) (B : Fr (PD x lo k) k l) : Fr (PD x lo h) h l := A.tr2 B (fun f a ha y => by
  have e := (A.2 a ha).1
  have := A.1
  unfold PD at y ⊢
  rw [e] at y
  omega)
theorem PD.cd {x lo : Nat} {h k : Hp} (C : Cd h x) (A : Fr (PD x lo h) h k) (hx : x + 38 < hT h) (lx : x + 38 < lo) : Cd k x := C.frame A hx (fun f _ y => by unfold PD at y; omega) (fun f _ _ y => by unfold PD at y; omega) (fun f _ _ y => by unfold PD at y; omega) (fun f _ _ y => by unfold PD at y; omega) (fun y => by unfold PD at y; omega) (fun u f _ _ _ y => by unfold PD at y; omega)
theorem PD.kn {hc kc hr kr : Hp} {x m lo : Nat} (K : Kn hc hr x m) (A : Fr (PD x lo hc) hc kc) (hx : x + 38 < hT hc) (lx : x + 38 < lo) (C : Cd hc x) (eL : ∀ k, k < 128 → hL kr (m + 1) k = hL hr (m + 1) k) : Kn kc kr x m := fun k hk => by
  obtain ⟨y, y1, y2, y3⟩ := K k hk
  have a1 := A.2 y y2
  have hT1 := A.1
  refine ⟨y, by rw [((A.2 (x + 2) (by omega)).2.2.2 (fun z => by unfold PD at z; omega) k).2.1]; exact y1, by omega, ?_⟩
  rw [eL k hk]
  refine y3.same a1.1 (fun f h1 h2 => (a1.2.2.1 f (fun z => ?_)).1)
  have k10 := y3.k
  have k11 := C.k_tally
  have k13 := C.k_blocks
  unfold PD at z
  omega
theorem cn_lt {T : Nat} : ∀ n, cn (fun i => decide (i < T)) n = if T < n then T else n := by
  intro n
  induction n with
  | zero => rw [if_neg (by omega)]; rfl
  | succ n ih =>
    rw [cn_snoc, ih]
    by_cases z : n < T
    · rw [decide_eq_true z, if_pos rfl, if_neg (by omega), if_neg (by omega)]
    · rw [decide_eq_false z, if_neg (show ¬ ((false : Bool) = true) by decide)]
      by_cases y : T < n
      · rw [if_pos y, if_pos (by omega)]; rfl
      · rw [if_neg y, if_pos (by omega)]; omega
theorem sumN_up {f g : Nat → Nat} {t d : Nat} : ∀ n, t < n → g t = f t + d → (∀ i, i < n → ¬ i = t → g i = f i) → sumN g n = sumN f n + d := by
  intro n
  induction n with
  | zero => intro h; omega
  | succ n ih =>
    intro h1 h2 h3
    show sumN g n + g n = sumN f n + f n + d
    by_cases z : t = n
    · subst z
      rw [h2, sumN_congr t (fun i hi => h3 i (by omega) (by omega))]
      omega
    · rw [ih (by omega) h2 (fun i hi => h3 i (by omega)), h3 n (by omega) (fun y => z y.symm)]
      omega
/-- while seats are taken -/
def SE (o o0 : Nat → Nat) (hc hr hc0 hr0 : Hp) (x m lo ln u b bl bi th k n : Nat) : Prop := (Cd hc x) ∧ (Kn hc hr x m) ∧ (x + 38 < hT hc) ∧ (lo ≤ hT hc) ∧ (∀ t, t < 128 → SlotOk o hc hr x m lo ln t) ∧ (∀ c, c < 64 → ¬ c = b → BlockOk o hc hr x m lo c) ∧ (Fr (PD x lo hc0) hc0 hc) ∧ (∀ u2 j w, u2 < 8 → hQ hc0 (x + 16 + 3 * u2) j = some w → hQ hc (x + 16 + 3 * u2) j = some w) ∧ (∀ j, hQ hc (x + 13) j = hQ hc0 (x + 13) j) ∧ (∀ f, 448 ≤ f → f ≤ 454 → hI hc f bl = hI hc0 f bl ∧ hR hc f bl = hR hc0 f bl) ∧ (∀ j, hA hc bi j = hA hc0 bi j) ∧ (∀ f u2, u2 < 8 → f = 386 ∨ f = 387 → hI hc f (x + 15 + 3 * u2) = hI hc0 f (x + 15 + 3 * u2)) ∧ (Rf m (fun _ => False) (fun a => (m + 9) ≤ a ∧ a ≤ (m + 17)) hr0 hr) ∧ (∀ t, t < 128 → ¬ (t / 16 = u ∧ t % 16 < k ∧ hA hr0 (m + 9) t = -1) → Rs m t hr0 hr) ∧ (∀ t, t < 128 → t / 16 = u → t % 16 < k → hA hr0 (m + 9) t = -1 → hA hr (m + 9) t = nI b) ∧ (cn (avB hr m b) 4096 = if th < n * ln then th else n * ln) ∧ (cn (wtB hr m b) 4096 = 0) ∧ (hT hc + PT hc0 x ≤ hT hc0 + PT hc x) ∧ (hU hc ≤ hU hc0 + 512 * (hT hc - hT hc0)) ∧ (∀ a, a < hT hc0 → o a = o0 a)
theorem SE.C {o o0 : Nat → Nat} {hc hr hc0 hr0 : Hp} {x m lo ln u b bl bi th k n : Nat} (X : SE o o0 hc hr hc0 hr0 x m lo ln u b bl bi th k n) : Cd hc x := X.1
theorem SE.K {o o0 : Nat → Nat} {hc hr hc0 hr0 : Hp} {x m lo ln u b bl bi th k n : Nat} (X : SE o o0 hc hr hc0 hr0 x m lo ln u b bl bi th k n) : Kn hc hr x m := X.2.1
theorem SE.hx {o o0 : Nat → Nat} {hc hr hc0 hr0 : Hp} {x m lo ln u b bl bi th k n : Nat} (X : SE o o0 hc hr hc0 hr0 x m lo ln u b bl bi th k n) : x + 38 < hT hc := X.2.2.1
theorem SE.lh {o o0 : Nat → Nat} {hc hr hc0 hr0 : Hp} {x m lo ln u b bl bi th k n : Nat} (X : SE o o0 hc hr hc0 hr0 x m lo ln u b bl bi th k n) : lo ≤ hT hc := X.2.2.2.1
theorem SE.S {o o0 : Nat → Nat} {hc hr hc0 hr0 : Hp} {x m lo ln u b bl bi th k n : Nat} (X : SE o o0 hc hr hc0 hr0 x m lo ln u b bl bi th k n) : ∀ t, t < 128 → SlotOk o hc hr x m lo ln t := X.2.2.2.2.1
theorem SE.B {o o0 : Nat → Nat} {hc hr hc0 hr0 : Hp} {x m lo ln u b bl bi th k n : Nat} (X : SE o o0 hc hr hc0 hr0 x m lo ln u b bl bi th k n) : ∀ c, c < 64 → ¬ c = b → BlockOk o hc hr x m lo c := X.2.2.2.2.2.1
theorem SE.A {o o0 : Nat → Nat} {hc hr hc0 hr0 : Hp} {x m lo ln u b bl bi th k n : Nat} (X : SE o o0 hc hr hc0 hr0 x m lo ln u b bl bi th k n) : Fr (PD x lo hc0) hc0 hc := X.2.2.2.2.2.2.1
theorem SE.Q {o o0 : Nat → Nat} {hc hr hc0 hr0 : Hp} {x m lo ln u b bl bi th k n : Nat} (X : SE o o0 hc hr hc0 hr0 x m lo ln u b bl bi th k n) : ∀ u2 j w, u2 < 8 → hQ hc0 (x + 16 + 3 * u2) j = some w → hQ hc (x + 16 + 3 * u2) j = some w := X.2.2.2.2.2.2.2.1
theorem SE.q13 {o o0 : Nat → Nat} {hc hr hc0 hr0 : Hp} {x m lo ln u b bl bi th k n : Nat} (X : SE o o0 hc hr hc0 hr0 x m lo ln u b bl bi th k n) : ∀ j, hQ hc (x + 13) j = hQ hc0 (x + 13) j := X.2.2.2.2.2.2.2.2.1
theorem SE.bf {o o0 : Nat → Nat} {hc hr hc0 hr0 : Hp} {x m lo ln u b bl bi th k n : Nat} (X : SE o o0 hc hr hc0 hr0 x m lo ln u b bl bi th k n) : ∀ f, 448 ≤ f → f ≤ 454 → hI hc f bl = hI hc0 f bl ∧ hR hc f bl = hR hc0 f bl := X.2.2.2.2.2.2.2.2.2.1
theorem SE.bi {o o0 : Nat → Nat} {hc hr hc0 hr0 : Hp} {x m lo ln u b bl bi th k n : Nat} (X : SE o o0 hc hr hc0 hr0 x m lo ln u b bl bi th k n) : ∀ j, hA hc bi j = hA hc0 bi j := X.2.2.2.2.2.2.2.2.2.2.1
theorem SE.us {o o0 : Nat → Nat} {hc hr hc0 hr0 : Hp} {x m lo ln u b bl bi th k n : Nat} (X : SE o o0 hc hr hc0 hr0 x m lo ln u b bl bi th k n) : ∀ f u2, u2 < 8 → f = 386 ∨ f = 387 → hI hc f (x + 15 + 3 * u2) = hI hc0 f (x + 15 + 3 * u2) := X.2.2.2.2.2.2.2.2.2.2.2.1
theorem SE.R {o o0 : Nat → Nat} {hc hr hc0 hr0 : Hp} {x m lo ln u b bl bi th k n : Nat} (X : SE o o0 hc hr hc0 hr0 x m lo ln u b bl bi th k n) : Rf m (fun _ => False) (fun a => (m + 9) ≤ a ∧ a ≤ (m + 17)) hr0 hr := X.2.2.2.2.2.2.2.2.2.2.2.2.1
theorem SE.far {o o0 : Nat → Nat} {hc hr hc0 hr0 : Hp} {x m lo ln u b bl bi th k n : Nat} (X : SE o o0 hc hr hc0 hr0 x m lo ln u b bl bi th k n) : ∀ t, t < 128 → ¬ (t / 16 = u ∧ t % 16 < k ∧ hA hr0 (m + 9) t = -1) → Rs m t hr0 hr := X.2.2.2.2.2.2.2.2.2.2.2.2.2.1
theorem SE.nb {o o0 : Nat → Nat} {hc hr hc0 hr0 : Hp} {x m lo ln u b bl bi th k n : Nat} (X : SE o o0 hc hr hc0 hr0 x m lo ln u b bl bi th k n) : ∀ t, t < 128 → t / 16 = u → t % 16 < k → hA hr0 (m + 9) t = -1 → hA hr (m + 9) t = nI b := X.2.2.2.2.2.2.2.2.2.2.2.2.2.2.1
theorem SE.av {o o0 : Nat → Nat} {hc hr hc0 hr0 : Hp} {x m lo ln u b bl bi th k n : Nat} (X : SE o o0 hc hr hc0 hr0 x m lo ln u b bl bi th k n) : cn (avB hr m b) 4096 = if th < n * ln then th else n * ln := X.2.2.2.2.2.2.2.2.2.2.2.2.2.2.2.1
theorem SE.wt {o o0 : Nat → Nat} {hc hr hc0 hr0 : Hp} {x m lo ln u b bl bi th k n : Nat} (X : SE o o0 hc hr hc0 hr0 x m lo ln u b bl bi th k n) : cn (wtB hr m b) 4096 = 0 := X.2.2.2.2.2.2.2.2.2.2.2.2.2.2.2.2.1
theorem SE.lt {o o0 : Nat → Nat} {hc hr hc0 hr0 : Hp} {x m lo ln u b bl bi th k n : Nat} (X : SE o o0 hc hr hc0 hr0 x m lo ln u b bl bi th k n) : hT hc + PT hc0 x ≤ hT hc0 + PT hc x := X.2.2.2.2.2.2.2.2.2.2.2.2.2.2.2.2.2.1
theorem SE.lu {o o0 : Nat → Nat} {hc hr hc0 hr0 : Hp} {x m lo ln u b bl bi th k n : Nat} (X : SE o o0 hc hr hc0 hr0 x m lo ln u b bl bi th k n) : hU hc ≤ hU hc0 + 512 * (hT hc - hT hc0) := X.2.2.2.2.2.2.2.2.2.2.2.2.2.2.2.2.2.2.1
theorem SE.ot {o o0 : Nat → Nat} {hc hr hc0 hr0 : Hp} {x m lo ln u b bl bi th k n : Nat} (X : SE o o0 hc hr hc0 hr0 x m lo ln u b bl bi th k n) : ∀ a, a < hT hc0 → o a = o0 a := X.2.2.2.2.2.2.2.2.2.2.2.2.2.2.2.2.2.2.2

/-- a slot without a block has a warp's cells, new ones or those of before -/
theorem seat_cell {F N : Nat} {o : Nat → Nat} {H hr : Hp} {x m lo ln sl u k bl wr n : Nat} (C : Cd H x) (hx : x + 38 < hT H) (lx : x + 38 < lo) (lh : lo ≤ hT H) (hu : u < 8) (hk : k < sl) (s16 : sl ≤ 16) (hsl : hI H 386 (x + 15 + 3 * u) = nI sl) (l32 : ln ≤ 32) (lp : ∃ e, e ≤ 5 ∧ ln = 2 ^ e) (S : SlotOk o H hr x m lo ln (16 * u + k)) (fr0 : hA hr (m + 9) (16 * u + k) = -1) (hn : n < wr) (w600 : wr ≤ 600) : ∃ H1 o1 w rg pl ro pr ti L, b_Unit_seat_6 F (N + 1) (x + 15 + 3 * u) (some bl) (nI wr) (nI ln) (some (x + 2)) (nI n) (nI k) H = b_Unit_seat_65 F (b_Unit_seat_6 F N) (x + 15 + 3 * u) (some bl) (nI wr) (nI ln) (some (x + 2)) (nI n) (nI k) H1 ∧ Ws o1 lo H1 (16 * u + k) w rg pl ro pr ti L ∧ hQ H1 (x + 16 + 3 * u) k = some w ∧ (∃ e, e ≤ 5 ∧ L = 2 ^ e) ∧ (∀ a, a < hT H → o1 a = o a) ∧ Fr (fun f a => a = x + 16 + 3 * u ∧ f = 9999) H H1 ∧ (∀ j, ¬ j = k → hQ H1 (x + 16 + 3 * u) j = hQ H (x + 16 + 3 * u) j) ∧ (∀ w2, hQ H (x + 16 + 3 * u) k = some w2 → w2 = w) ∧ ((hT H1 = hT H ∧ hQ H (x + 16 + 3 * u) k = some w) ∨ (hT H1 = hT H + 6 ∧ L = ln ∧ hQ H (x + 16 + 3 * u) k = none ∧ hT H ≤ w)) ∧ hU H1 ≤ hU H + 512 * (hT H1 - hT H) := by
  obtain ⟨d1, d2, d3, d4, d5, _⟩ := C.u u hu
  have dv : (16 * u + k) / 16 = u := by omega
  have md : (16 * u + k) % 16 = k := by omega
  have c1 : ¬ nI sl ≤ nI k := nI_ge hk (by omega)
  have c2 : ¬ nI 16 ≤ nI k := nI_ge (by omega) (by omega)
  have c3 : ¬ nI wr ≤ nI n := nI_ge hn (by omega)
  unfold SlotOk at S
  rw [dv, md] at S
  rw [b_Unit_seat_6]
  dsimp only
  rcases S with ⟨z1, _⟩ | ⟨w, rg, pl, ro, pr, ti, L, z1, W, e, z3⟩
  · rw [gd_t d2, hsl, if_neg c1, rq_k d3 d4, d5, if_neg c2, if_neg c3, c_Unit_busy d2 d3 d4 d5 hsl s16 hk (fun w hw => by rw [z1] at hw; cases hw), cl_some, show bz H (x + 16 + 3 * u) k = none from by unfold bz; rw [z1], nu_none, gd_t d2, rq_k d3 d4, d5, ixn (by omega) (by decide), pw_e, z1, nu_none, pw_e, pw_e]
    have hn9 : hK (nw H 9 0 16) (hT H) = 9 := by rw [qK_nw, if_pos rfl]
    obtain ⟨k1, i1, i2, i3, i4, ⟨w1, w2, w3, w4, w5⟩⟩ := c_Warp_init (F := F) (h := nw H 9 0 16) (w := hT H) (ln := ln) hn9 (by rw [qT_nw]; omega) l32
    rw [qT_nw] at i2 w1 w2 w3 w4 w5
    rw [qU_nw] at i3
    have F0 : Fr (fun f a => a = x + 16 + 3 * u ∧ f = 9999) H k1 := ⟨by rw [i2]; omega, fun a ha => by
      obtain ⟨b1, b2, b3, b4⟩ := i4.2 a (by rw [qT_nw]; omega)
      refine ⟨by rw [b1, qK_nw, if_neg (by omega)], by rw [b2, qN_nw, if_neg (by omega)], fun f _ => ?_, fun _ j => ?_⟩
      · have b5 := b3 f (fun y => by have := y.1; omega)
        rw [qI_nw, qR_nw, if_neg (by omega), if_neg (by omega)] at b5
        exact b5
      · have b6 := b4 (fun y => by have := y.1; omega) j
        rw [qA_nw, qQ_nw, qL_nw, if_neg (by omega), if_neg (by omega), if_neg (by omega)] at b6
        exact b6⟩
    have k16 : hK k1 (x + 16 + 3 * u) = 123 ∧ hN k1 (x + 16 + 3 * u) = 16 := by
      rw [(F0.2 (x + 16 + 3 * u) (by omega)).1, (F0.2 (x + 16 + 3 * u) (by omega)).2.1]
      exact ⟨d4, d5⟩
    have kw : hK k1 (hT H) = 9 := by rw [(i4.2 (hT H) (by rw [qT_nw]; omega)).1]; exact hn9
    rw [i1, clv_some, gd_t k16.1, gd_t kw, k16.2, ixn (by omega) (by decide), pw_e]
    refine ⟨_, fun a => if a = hT H then 6 * (16 * u + k) else if a = hT H + 1 then 6 * (16 * u + k) + 4 else if a = hT H + 2 then 6 * (16 * u + k) + 5 else if a = hT H + 3 then 6 * (16 * u + k) + 1 else if a = hT H + 4 then 6 * (16 * u + k) + 2 else if a = hT H + 5 then 6 * (16 * u + k) + 3 else o a, hT H, hT H + 3, hT H + 4, hT H + 5, hT H + 1, hT H + 2, ln, rfl, ?_, ?_, lp, fun a ha => ?_, F0.cQ ⟨rfl, rfl⟩, fun j nj => ?_, fun w2 hw2 => (by cases hw2), Or.inr ⟨by rw [qT_sQ, i2], rfl, rfl, Nat.le_refl _⟩, by rw [qT_sQ, qU_sQ, i2, i3]; omega⟩
    · have T1 : hT (sQ k1 (x + 16 + 3 * u) k (some (hT H))) = hT H + 6 := by rw [qT_sQ, i2]
      refine ⟨by rw [qK_sQ]; exact kw, l32, by dsimp only; rw [if_pos rfl], ⟨lh, by omega⟩, by rw [qR_sQ]; exact w3.1, by rw [qK_sQ]; exact w3.2.1, by rw [qN_sQ]; exact w3.2.2, by dsimp only; rw [if_neg (by omega), if_neg (by omega), if_neg (by omega), if_pos rfl], ⟨by omega, by omega⟩, by rw [qR_sQ]; exact w4.1, by rw [qK_sQ]; exact w4.2.1, by rw [qN_sQ]; exact w4.2.2, by dsimp only; rw [if_neg (by omega), if_neg (by omega), if_neg (by omega), if_neg (by omega), if_pos rfl], ⟨by omega, by omega⟩, by rw [qR_sQ]; exact w5.1, by rw [qK_sQ]; exact w5.2.1, by rw [qN_sQ]; exact w5.2.2, by dsimp only; rw [if_neg (by omega), if_neg (by omega), if_neg (by omega), if_neg (by omega), if_neg (by omega), if_pos rfl], ⟨by omega, by omega⟩, by rw [qR_sQ]; exact w1.1, by rw [qK_sQ]; exact w1.2.1, by rw [qN_sQ]; exact w1.2.2, by dsimp only; rw [if_neg (by omega), if_pos rfl], ⟨by omega, by omega⟩, by rw [qR_sQ]; exact w2.1, by rw [qK_sQ]; exact w2.2.1, by rw [qN_sQ]; exact w2.2.2, by dsimp only; rw [if_neg (by omega), if_neg (by omega), if_pos rfl], ⟨by omega, by omega⟩⟩
    · rw [qQ_sQ, if_pos ⟨rfl, rfl⟩]
    · dsimp only
      rw [if_neg (by omega), if_neg (by omega), if_neg (by omega), if_neg (by omega), if_neg (by omega), if_neg (by omega)]
    · rw [qQ_sQ, if_neg (fun y => nj y.2)]
      have b6 := (i4.2 (x + 16 + 3 * u) (by rw [qT_nw]; omega)).2.2.2 (fun y => by have := y.1; omega) j
      rw [b6.2.1, qQ_nw, if_neg (by omega)]
  · rcases z3 with ⟨z3, z4⟩ | ⟨b, bl2, B, G⟩
    · rw [gd_t d2, hsl, if_neg c1, rq_k d3 d4, d5, if_neg c2, if_neg c3, c_Unit_busy d2 d3 d4 d5 hsl s16 hk (fun w2 hw => by rw [z1] at hw; injection hw with hw; rw [← hw]; exact W.k), cl_some, show bz H (x + 16 + 3 * u) k = none from by unfold bz; rw [z1]; dsimp only; rw [z3], nu_none, gd_t d2, rq_k d3 d4, d5, ixn (by omega) (by decide), pw_e, z1, nu_some]
      exact ⟨H, o, w, rg, pl, ro, pr, ti, L, rfl, W, z1, e, fun _ _ => rfl, Fr.refl H, fun _ _ => rfl, fun w2 hw2 => by injection hw2 with hw2; exact hw2.symm, Or.inl ⟨rfl, rfl⟩, by omega⟩
    · have := B.sb
      rw [fr0] at this
      exact absurd this.symm (nI_m1 (by have := B.b64; omega))
