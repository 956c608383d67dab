/-! the whole state, side by side -/
/-- tally, sizes, units -/
def Ty (hc hr : Hp) (x m : Nat) : Prop := (∀ j, j < 6 → hI hc (64 + j) (x + 1) = hI hr (705 + j) m) ∧ (hI hc 324 (x + 11) = hI hr 725 m) ∧ (hI hc 325 (x + 11) = hI hr 719 m) ∧ (hI hc 326 (x + 11) = hI hr 726 m) ∧ (∀ j, j < 3 → hI hc (327 + j) (x + 11) = hI hr (720 + j) m) ∧ (∀ j, j < 4 → hI hc (330 + j) (x + 11) = hI hr (727 + j) m) ∧ (∀ u, u < 8 → hI hc 388 (x + 15 + 3 * u) = hA hr (m + 7) u ∧ hI hc 389 (x + 15 + 3 * u) = hA hr (m + 8) u ∧ hI hc 390 (x + 15 + 3 * u) = hA hr (m + 5) u ∧ hI hc 391 (x + 15 + 3 * u) = hA hr (m + 6) u)
theorem Ty.sz {hc hr : Hp} {x m : Nat} (X : Ty hc hr x m) : ∀ j, j < 6 → hI hc (64 + j) (x + 1) = hI hr (705 + j) m := X.1
theorem Ty.en {hc hr : Hp} {x m : Nat} (X : Ty hc hr x m) : hI hc 324 (x + 11) = hI hr 725 m := X.2.1
theorem Ty.cy {hc hr : Hp} {x m : Nat} (X : Ty hc hr x m) : hI hc 325 (x + 11) = hI hr 719 m := X.2.2.1
theorem Ty.al {hc hr : Hp} {x m : Nat} (X : Ty hc hr x m) : hI hc 326 (x + 11) = hI hr 726 m := X.2.2.2.1
theorem Ty.wd {hc hr : Hp} {x m : Nat} (X : Ty hc hr x m) : ∀ j, j < 3 → hI hc (327 + j) (x + 11) = hI hr (720 + j) m := X.2.2.2.2.1
theorem Ty.tr {hc hr : Hp} {x m : Nat} (X : Ty hc hr x m) : ∀ j, j < 4 → hI hc (330 + j) (x + 11) = hI hr (727 + j) m := X.2.2.2.2.2.1
theorem Ty.un {hc hr : Hp} {x m : Nat} (X : Ty hc hr x m) : ∀ u, u < 8 → hI hc 388 (x + 15 + 3 * u) = hA hr (m + 7) u ∧ hI hc 389 (x + 15 + 3 * u) = hA hr (m + 8) u ∧ hI hc 390 (x + 15 + 3 * u) = hA hr (m + 5) u ∧ hI hc 391 (x + 15 + 3 * u) = hA hr (m + 6) u := X.2.2.2.2.2.2

/-- sizes -/
def Sz (hr : Hp) (m ln sl nu bk ga sz : Nat) : Prop := (hI hr 705 m = nI ln) ∧ (hI hr 706 m = nI sl) ∧ (hI hr 707 m = nI nu) ∧ (hI hr 708 m = nI bk) ∧ (hI hr 709 m = nI ga) ∧ (hI hr 710 m = nI sz) ∧ (∃ k, k ≤ 5 ∧ ln = 2 ^ k) ∧ (1 ≤ sl ∧ sl ≤ 16) ∧ (1 ≤ nu ∧ nu ≤ 8) ∧ (∃ k, k ≤ 5 ∧ bk = 2 ^ k) ∧ (0 < ga ∧ ga ≤ 8) ∧ (512 ≤ sz ∧ sz ≤ 4096)
theorem Sz.ln {hr : Hp} {m ln sl nu bk ga sz : Nat} (X : Sz hr m ln sl nu bk ga sz) : hI hr 705 m = nI ln := X.1
theorem Sz.sl {hr : Hp} {m ln sl nu bk ga sz : Nat} (X : Sz hr m ln sl nu bk ga sz) : hI hr 706 m = nI sl := X.2.1
theorem Sz.nu {hr : Hp} {m ln sl nu bk ga sz : Nat} (X : Sz hr m ln sl nu bk ga sz) : hI hr 707 m = nI nu := X.2.2.1
theorem Sz.bk {hr : Hp} {m ln sl nu bk ga sz : Nat} (X : Sz hr m ln sl nu bk ga sz) : hI hr 708 m = nI bk := X.2.2.2.1
theorem Sz.ga {hr : Hp} {m ln sl nu bk ga sz : Nat} (X : Sz hr m ln sl nu bk ga sz) : hI hr 709 m = nI ga := X.2.2.2.2.1
theorem Sz.sz {hr : Hp} {m ln sl nu bk ga sz : Nat} (X : Sz hr m ln sl nu bk ga sz) : hI hr 710 m = nI sz := X.2.2.2.2.2.1
theorem Sz.lp {hr : Hp} {m ln sl nu bk ga sz : Nat} (X : Sz hr m ln sl nu bk ga sz) : ∃ k, k ≤ 5 ∧ ln = 2 ^ k := X.2.2.2.2.2.2.1
theorem Sz.s1 {hr : Hp} {m ln sl nu bk ga sz : Nat} (X : Sz hr m ln sl nu bk ga sz) : 1 ≤ sl ∧ sl ≤ 16 := X.2.2.2.2.2.2.2.1
theorem Sz.u1 {hr : Hp} {m ln sl nu bk ga sz : Nat} (X : Sz hr m ln sl nu bk ga sz) : 1 ≤ nu ∧ nu ≤ 8 := X.2.2.2.2.2.2.2.2.1
theorem Sz.bp {hr : Hp} {m ln sl nu bk ga sz : Nat} (X : Sz hr m ln sl nu bk ga sz) : ∃ k, k ≤ 5 ∧ bk = 2 ^ k := X.2.2.2.2.2.2.2.2.2.1
theorem Sz.g1 {hr : Hp} {m ln sl nu bk ga sz : Nat} (X : Sz hr m ln sl nu bk ga sz) : 0 < ga ∧ ga ≤ 8 := X.2.2.2.2.2.2.2.2.2.2.1
theorem Sz.i1 {hr : Hp} {m ln sl nu bk ga sz : Nat} (X : Sz hr m ln sl nu bk ga sz) : 512 ≤ sz ∧ sz ≤ 4096 := X.2.2.2.2.2.2.2.2.2.2.2

/-- one that is on its way -/
def PnR (hr : Hp) (m sz c : Nat) (r : Rq) : Prop := (RqO2 r) ∧ (r.p < sz) ∧ (hA hr (m + 9) r.s = nI r.b) ∧ (rLn hr m r.s r.i) ∧ (hA hr (m + 16) (32 * r.s + r.i) = 0) ∧ (∃ t, c ≤ t ∧ t < 2 ^ 30 ∧ r.t = nI t) ∧ (r.t ≤ hA hr (m + 11) r.s)
theorem PnR.o2 {hr : Hp} {m sz c : Nat} {r : Rq} (X : PnR hr m sz c r) : RqO2 r := X.1
theorem PnR.ps {hr : Hp} {m sz c : Nat} {r : Rq} (X : PnR hr m sz c r) : r.p < sz := X.2.1
theorem PnR.sb {hr : Hp} {m sz c : Nat} {r : Rq} (X : PnR hr m sz c r) : hA hr (m + 9) r.s = nI r.b := X.2.2.1
theorem PnR.rl {hr : Hp} {m sz c : Nat} {r : Rq} (X : PnR hr m sz c r) : rLn hr m r.s r.i := X.2.2.2.1
theorem PnR.ne {hr : Hp} {m sz c : Nat} {r : Rq} (X : PnR hr m sz c r) : hA hr (m + 16) (32 * r.s + r.i) = 0 := X.2.2.2.2.1
theorem PnR.tt {hr : Hp} {m sz c : Nat} {r : Rq} (X : PnR hr m sz c r) : ∃ t, c ≤ t ∧ t < 2 ^ 30 ∧ r.t = nI t := X.2.2.2.2.2.1
theorem PnR.tm {hr : Hp} {m sz c : Nat} {r : Rq} (X : PnR hr m sz c r) : r.t ≤ hA hr (m + 11) r.s := X.2.2.2.2.2.2

/-- what is on its way -/
def Pn (hc hr : Hp) (x m lo sz c Ta : Nat) : Prop := ∃ (L : List Rq) (Z : RowT) (sp : List Nat) (tg : Nat → Nat), Pd hr m L ∧ Rws hc x lo tg Z ∧ Spr hc x lo tg sp ∧ (∀ r, r < 64 → Eqv ((Z r).map Prod.snd) (L.filter (fun q => decide ((q.t &&& 63) = nI r)))) ∧ hI hc 259 (x + 8) = nI L.length ∧ (L.map th).Nodup ∧ (∀ r, r ∈ L → PnR hr m sz c r) ∧ Ta = L.length + sp.length
theorem Pn.step {hc hr kc kr : Hp} {x m lo sz c d Ta : Nat} (P : Pn hc hr x m lo sz c Ta) (r1 : ∀ tg Z, Rws hc x lo tg Z → Rws kc x lo tg Z) (r2 : ∀ tg sp, Spr hc x lo tg sp → Spr kc x lo tg sp) (r3 : ∀ L, Pd hr m L → Pd kr m L) (r4 : hI kc 259 (x + 8) = hI hc 259 (x + 8)) (r5 : ∀ r, PnR hr m sz c r → PnR kr m sz d r) : Pn kc kr x m lo sz d Ta := by
  obtain ⟨L, Z, sp, tg, p1, p2, p3, p4, p5, p6, p7, p8⟩ := P
  exact ⟨L, Z, sp, tg, r3 L p1, r1 tg Z p2, r2 tg sp p3, p4, by rw [r4]; exact p5, p6, fun r hr => r5 r (p7 r hr), p8⟩
theorem PnR.same {h k : Hp} {m sz c : Nat} {r : Rq} (R : PnR h m sz c r) (e1 : hI k 705 m = hI h 705 m) (e2 : hI k 717 m = hI h 717 m) (e3 : hA k (m + 9) r.s = hA h (m + 9) r.s) (e4 : hA k (m + 10) r.s = hA h (m + 10) r.s) (e5 : hA k (m + 11) r.s = hA h (m + 11) r.s) (e6 : hA k (m + 16) (32 * r.s + r.i) = hA h (m + 16) (32 * r.s + r.i)) : PnR k m sz c r := ⟨R.o2, R.ps, by rw [e3]; exact R.sb, (rLn_same e1 e2 e4).mpr R.rl, by rw [e6]; exact R.ne, R.tt, by rw [e5]; exact R.tm⟩
def sumN (f : Nat → Nat) : Nat → Nat
  | 0 => 0
  | n + 1 => sumN f n + f n
theorem sumN_congr {f g : Nat → Nat} : ∀ n, (∀ i, i < n → f i = g i) → sumN f n = sumN g n := by
  intro n
  induction n with
  | zero => intro _; rfl
  | succ n ih => intro h; show sumN f n + f n = sumN g n + g n; rw [ih (fun i hi => h i (by omega)), h n (by omega)]
theorem sumN_le {f : Nat → Nat} {k : Nat} : ∀ n, (∀ i, i < n → f i ≤ k) → sumN f n ≤ k * n := by
  intro n
  induction n with
  | zero => intro _; exact Nat.zero_le _
  | succ n ih => intro h; have h1 := ih (fun i hi => h i (by omega)); have h2 := h n (by omega); show sumN f n + f n ≤ k * (n + 1); rw [Nat.mul_succ]; omega
/-- how many cells a slot has had at the most -/
def potS (h : Hp) (x s : Nat) : Nat := match hQ h (x + 16 + 3 * (s / 16)) (s % 16) with
  | none => 0
  | some w => match hR h 524 w with
    | none => 0
    | some pl => 6 + 3 * Nat.log2 (hN h pl)
def potB (h : Hp) (x b : Nat) : Bool := (hQ h (x + 13) b).isSome
def PT (h : Hp) (x : Nat) : Nat := 2 * cn (potB h x) 64 + sumN (potS h x) 128
/-- the room -/
def Lg (h : Hp) (x lo U0 nC Ta : Nat) : Prop := hT h ≤ lo + nC + Ta + PT h x ∧ hU h + 512 * lo ≤ U0 + 512 * hT h ∧ Ta ≤ 4096
theorem PT.fr {P : Nat → Nat → Prop} {o : Nat → Nat} {hc hr kc : Hp} {x m lo ln : Nat} (S : ∀ t, t < 128 → SlotOk o hc hr x m lo ln t) (A : Fr P hc kc) (hx : x + 38 < hT hc) (n1 : ¬ P 9999 (x + 13)) (n2 : ∀ u, u < 8 → ¬ P 9999 (x + 16 + 3 * u)) (n3 : ∀ a, lo ≤ a → a < hT hc → hK hc a = 9 → ¬ P 524 a) : PT kc x = PT hc x := by
  have e1 : cn (potB kc x) 64 = cn (potB hc x) 64 := cn_congr 64 fun b _ => by
    unfold potB
    rw [((A.2 (x + 13) (by omega)).2.2.2 n1 b).2.1]
  have e2 : sumN (potS kc x) 128 = sumN (potS hc x) 128 := sumN_congr 128 fun s hs => by
    unfold potS
    rw [((A.2 (x + 16 + 3 * (s / 16)) (by omega)).2.2.2 (n2 _ (by omega)) (s % 16)).2.1]
    rcases S s hs with ⟨z, _⟩ | ⟨w, rg, pl, ro, pr, ti, L, z, W, _⟩
    · rw [z]
    · rw [z]
      dsimp only
      rw [((A.2 w W.bw.2).2.2.1 524 (n3 w W.bw.1 W.bw.2 W.k)).2, W.r_pl]
      dsimp only
      rw [(A.2 pl W.b_pl.2).2.1]
  unfold PT
  rw [e1, e2]
/-- the state -/
def Sm (o : Nat → Nat) (hc hr : Hp) (x m lo ln sl nu bk ga sz c pc G U0 nC Ta : Nat) : Prop := (Md hr m) ∧ (x + 38 < m) ∧ (m + 28 < lo) ∧ (lo ≤ hT hc) ∧ (∀ a, m ≤ a → a < lo → 12 ≤ hK hc a) ∧ (Sx o hc hr x m lo ln sl) ∧ (Sz hr m ln sl nu bk ga sz) ∧ (Ty hc hr x m) ∧ (∀ p, p < sz → hA hc (x + 4) p = hA hr (m + 2) p) ∧ (hI hc 131 (x + 3) = nI sz) ∧ (∀ p, sz ≤ p → p < 4096 → hA hr (m + 2) p = 0) ∧ (CaIs hc x (cs0 hr m)) ∧ (GB (cs0 hr m) G) ∧ (∀ u, u < 8 → ∃ l, l < sl ∧ hA hr (m + 7) u = nI l) ∧ (hI hr 719 m = nI c) ∧ (Pn hc hr x m lo sz pc Ta) ∧ (Lg hc x lo U0 nC Ta)
theorem Sm.M {o : Nat → Nat} {hc hr : Hp} {x m lo ln sl nu bk ga sz c pc G U0 nC Ta : Nat} (X : Sm o hc hr x m lo ln sl nu bk ga sz c pc G U0 nC Ta) : Md hr m := X.1
theorem Sm.xm {o : Nat → Nat} {hc hr : Hp} {x m lo ln sl nu bk ga sz c pc G U0 nC Ta : Nat} (X : Sm o hc hr x m lo ln sl nu bk ga sz c pc G U0 nC Ta) : x + 38 < m := X.2.1
theorem Sm.ml {o : Nat → Nat} {hc hr : Hp} {x m lo ln sl nu bk ga sz c pc G U0 nC Ta : Nat} (X : Sm o hc hr x m lo ln sl nu bk ga sz c pc G U0 nC Ta) : m + 28 < lo := X.2.2.1
theorem Sm.lh {o : Nat → Nat} {hc hr : Hp} {x m lo ln sl nu bk ga sz c pc G U0 nC Ta : Nat} (X : Sm o hc hr x m lo ln sl nu bk ga sz c pc G U0 nC Ta) : lo ≤ hT hc := X.2.2.2.1
theorem Sm.nK {o : Nat → Nat} {hc hr : Hp} {x m lo ln sl nu bk ga sz c pc G U0 nC Ta : Nat} (X : Sm o hc hr x m lo ln sl nu bk ga sz c pc G U0 nC Ta) : ∀ a, m ≤ a → a < lo → 12 ≤ hK hc a := X.2.2.2.2.1
theorem Sm.X {o : Nat → Nat} {hc hr : Hp} {x m lo ln sl nu bk ga sz c pc G U0 nC Ta : Nat} (X : Sm o hc hr x m lo ln sl nu bk ga sz c pc G U0 nC Ta) : Sx o hc hr x m lo ln sl := X.2.2.2.2.2.1
theorem Sm.Z {o : Nat → Nat} {hc hr : Hp} {x m lo ln sl nu bk ga sz c pc G U0 nC Ta : Nat} (X : Sm o hc hr x m lo ln sl nu bk ga sz c pc G U0 nC Ta) : Sz hr m ln sl nu bk ga sz := X.2.2.2.2.2.2.1
theorem Sm.T {o : Nat → Nat} {hc hr : Hp} {x m lo ln sl nu bk ga sz c pc G U0 nC Ta : Nat} (X : Sm o hc hr x m lo ln sl nu bk ga sz c pc G U0 nC Ta) : Ty hc hr x m := X.2.2.2.2.2.2.2.1
theorem Sm.mm {o : Nat → Nat} {hc hr : Hp} {x m lo ln sl nu bk ga sz c pc G U0 nC Ta : Nat} (X : Sm o hc hr x m lo ln sl nu bk ga sz c pc G U0 nC Ta) : ∀ p, p < sz → hA hc (x + 4) p = hA hr (m + 2) p := X.2.2.2.2.2.2.2.2.1
theorem Sm.ms {o : Nat → Nat} {hc hr : Hp} {x m lo ln sl nu bk ga sz c pc G U0 nC Ta : Nat} (X : Sm o hc hr x m lo ln sl nu bk ga sz c pc G U0 nC Ta) : hI hc 131 (x + 3) = nI sz := X.2.2.2.2.2.2.2.2.2.1
theorem Sm.mz {o : Nat → Nat} {hc hr : Hp} {x m lo ln sl nu bk ga sz c pc G U0 nC Ta : Nat} (X : Sm o hc hr x m lo ln sl nu bk ga sz c pc G U0 nC Ta) : ∀ p, sz ≤ p → p < 4096 → hA hr (m + 2) p = 0 := X.2.2.2.2.2.2.2.2.2.2.1
theorem Sm.ca {o : Nat → Nat} {hc hr : Hp} {x m lo ln sl nu bk ga sz c pc G U0 nC Ta : Nat} (X : Sm o hc hr x m lo ln sl nu bk ga sz c pc G U0 nC Ta) : CaIs hc x (cs0 hr m) := X.2.2.2.2.2.2.2.2.2.2.2.1
theorem Sm.gb {o : Nat → Nat} {hc hr : Hp} {x m lo ln sl nu bk ga sz c pc G U0 nC Ta : Nat} (X : Sm o hc hr x m lo ln sl nu bk ga sz c pc G U0 nC Ta) : GB (cs0 hr m) G := X.2.2.2.2.2.2.2.2.2.2.2.2.1
theorem Sm.lt {o : Nat → Nat} {hc hr : Hp} {x m lo ln sl nu bk ga sz c pc G U0 nC Ta : Nat} (X : Sm o hc hr x m lo ln sl nu bk ga sz c pc G U0 nC Ta) : ∀ u, u < 8 → ∃ l, l < sl ∧ hA hr (m + 7) u = nI l := X.2.2.2.2.2.2.2.2.2.2.2.2.2.1
theorem Sm.cy {o : Nat → Nat} {hc hr : Hp} {x m lo ln sl nu bk ga sz c pc G U0 nC Ta : Nat} (X : Sm o hc hr x m lo ln sl nu bk ga sz c pc G U0 nC Ta) : hI hr 719 m = nI c := X.2.2.2.2.2.2.2.2.2.2.2.2.2.2.1
theorem Sm.P {o : Nat → Nat} {hc hr : Hp} {x m lo ln sl nu bk ga sz c pc G U0 nC Ta : Nat} (X : Sm o hc hr x m lo ln sl nu bk ga sz c pc G U0 nC Ta) : Pn hc hr x m lo sz pc Ta := X.2.2.2.2.2.2.2.2.2.2.2.2.2.2.2.1
theorem Sm.lg {o : Nat → Nat} {hc hr : Hp} {x m lo ln sl nu bk ga sz c pc G U0 nC Ta : Nat} (X : Sm o hc hr x m lo ln sl nu bk ga sz c pc G U0 nC Ta) : Lg hc x lo U0 nC Ta := X.2.2.2.2.2.2.2.2.2.2.2.2.2.2.2.2

