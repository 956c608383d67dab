/-! words of the memories: to the meeting -/
theorem Cd.st {h : Hp} {x : Nat} (C : Cd h x) {a : Nat} (h1 : x ≤ a) (h2 : a ≤ x + 38) (n : ¬ a = x + 14) : hK h a < 8 ∨ 100 ≤ hK h a := by
  by_cases q : a ≤ x + 13
  · obtain ⟨k, rfl⟩ : ∃ k, a = x + k := ⟨a - x, by omega⟩
    have hk : k < 14 := by omega
    match k, hk with
    | 0, _ => rw [Nat.add_zero, C.k]; decide
    | 1, _ => rw [C.k_sizes]; decide
    | 2, _ => rw [C.k_kernel]; decide
    | 3, _ => rw [C.k_memory]; decide
    | 4, _ => rw [C.k_ints]; decide
    | 5, _ => rw [C.k_cache]; decide
    | 6, _ => rw [C.k_lines]; decide
    | 7, _ => rw [C.k_cticks]; decide
    | 8, _ => rw [C.k_pending]; decide
    | 9, _ => rw [C.k_first]; decide
    | 10, _ => rw [C.k_last]; decide
    | 11, _ => rw [C.k_tally]; decide
    | 12, _ => rw [C.k_units]; decide
    | 13, _ => rw [C.k_blocks]; decide
  · obtain ⟨_, e1, _, e2, _, _, e3, _⟩ := C.u ((a - x - 15) / 3) (by omega)
    have e : a = x + 15 + 3 * ((a - x - 15) / 3) ∨ a = x + 16 + 3 * ((a - x - 15) / 3) ∨ a = x + 17 + 3 * ((a - x - 15) / 3) := by omega
    rcases e with e | e | e
    · rw [← e] at e1; rw [e1]; decide
    · rw [← e] at e2; rw [e2]; decide
    · rw [← e] at e3; rw [e3]; decide
/-- what a word of a memory may change in the class, before the meeting -/
def PX (x u w rg pl ro ti bi : Nat) (h : Hp) (f a : Nat) : Prop := (a = w ∧ f = 522) ∨ (f = 9999 ∧ (a = rg ∨ a = pl ∨ a = ro ∨ a = ti ∨ a = bi)) ∨ a = x + 11 ∨ (a = x + 15 + 3 * u ∧ 389 ≤ f ∧ f ≤ 391) ∨ (a = x + 17 + 3 * u ∧ f = 9999) ∨ PM x h f a
theorem PX.e {x u w rg pl ro ti bi : Nat} {h : Hp} {f a : Nat} (y : PX x u w rg pl ro ti bi h f a) : (a = w ∧ f = 522) ∨ (f = 9999 ∧ (a = rg ∨ a = pl ∨ a = ro ∨ a = ti ∨ a = bi)) ∨ a = x + 11 ∨ (a = x + 15 + 3 * u ∧ 389 ≤ f ∧ f ≤ 391) ∨ (a = x + 17 + 3 * u ∧ f = 9999) ∨ hT h ≤ a ∨ hK h a = 11 ∨ (x + 5 ≤ a ∧ a ≤ x + 10 ∧ ((f = 9999 ∧ ¬ a = x + 5 ∧ ¬ a = x + 8) ∨ (a = x + 5 ∧ (f = 194 ∨ f = 195)) ∨ (a = x + 8 ∧ (f = 258 ∨ f = 259)))) := by
  rcases y with y | y | y | y | y | y
  · exact Or.inl y
  · exact Or.inr (Or.inl y)
  · exact Or.inr (Or.inr (Or.inl y))
  · exact Or.inr (Or.inr (Or.inr (Or.inl y)))
  · exact Or.inr (Or.inr (Or.inr (Or.inr (Or.inl y))))
  · refine Or.inr (Or.inr (Or.inr (Or.inr (Or.inr ?_))))
    rcases y with (y | y | y | y) | y | y
    · exact Or.inl y
    · exact Or.inr (Or.inl y)
    · exact Or.inr (Or.inr (by omega))
    · exact Or.inr (Or.inr (by omega))
    · exact Or.inr (Or.inr (by omega))
    · exact Or.inr (Or.inr (by omega))
theorem mem_fin {o : Nat → Nat} {hc H hm hrT : Hp} {x m lo ln sl u s b w rg pl ro pr ti L bl wd F i0 bi : Nat} {v : Int64} (hF : 40000 ≤ F) (X : Sx o hc H x m lo ln sl) (E : GO o hc H x m lo ln u s b w rg pl ro pr ti L bl wd v) (z1 : hQ hc (x + 16 + 3 * (s / 16)) (s % 16) = some w) (e : ∃ e, e ≤ 5 ∧ L = 2 ^ e) (hi : i0 < 32) (q : ¬ hA H (m + 26) i0 = 0) (rbi : hR hc 449 bl = some bi) (A : Fr (PX x u w rg pl ro ti bi hc) hc hm) (WbT : Wb hm hrT x m s ln b w rg pl pr ti L bl) (rI : ∀ f, f = 705 ∨ f = 716 ∨ f = 717 ∨ f = 725 → hI hrT f m = hI H f m) (sbT : ∀ t, t < 128 → hA hrT (m + 9) t = hA H (m + 9) t) (far : ∀ t, t < 128 → ¬ t = s → Rs m t H hrT) (swn : hA hrT (m + 10) s = hA H (m + 10) s) (enw : ∀ i, i < 32 → hA hrT (m + 16) (32 * s + i) = hA H (m + 16) (32 * s + i) ∧ hA hrT (m + 17) (32 * s + i) = hA H (m + 17) (32 * s + i)) (shb : ∀ k, k < 64 → hA hm bi k = hA hrT (m + 18) (64 * b + k)) (sho : ∀ c k, c < 64 → ¬ c = b → k < 64 → hA hrT (m + 18) (64 * c + k) = hA H (m + 18) (64 * c + k)) (eL : ∀ k, k < 128 → hL hrT (m + 1) k = hL H (m + 1) k) (td : hI hm 324 (x + 11) = hI H 725 m) : ∃ kc, b_WM_go_225 F x w hm = some kc ∧ Sx o kc hrT x m lo ln sl ∧ hI kc 324 (x + 11) = hI hrT 725 m ∧ Fr (PG hm x lo) hm kc ∧ hT kc = hT hm ∧ hU kc = hU hm := by
  have C := E.C
  have W := E.W
  have B := E.B
  have lx := E.lx
  have wl := W.bw
  have l32 := E.l32
  have hu := E.hu
  have hs := E.hs
  have hx := X.hx
  have s16 := X.s16
  have b64 := B.b64
  have wb1 := W.b_rg
  have wb2 := W.b_pl
  have wb3 := W.b_ro
  have wb4 := W.b_pr
  have wb5 := W.b_ti
  have hT1 := A.1
  obtain ⟨ub, ⟨k1, k2, k3, k4, k5⟩, ⟨i1, i2, i3, i4, i5, i6⟩, u1, u2, u3, u4, u5, u6, u7, u8, u9⟩ : ∃ u2, (hK hc bl = 8 ∧ hI hc 448 bl = nI b ∧ o bl = 1000 + 2 * b ∧ lo ≤ bl ∧ bl < hT hc) ∧ (hR hc 449 bl = some bi ∧ hK hc bi = 100 ∧ hN hc bi = 64 ∧ o bi = 1001 + 2 * b ∧ lo ≤ bi ∧ bi < hT hc) ∧ BlIn hc H x m b bl bi u2 := by
    rcases X.B b b64 with ⟨y, _⟩ | ⟨bl2, bi2, y, k, i, y3⟩
    · rw [B.bq] at y; cases y
    · rw [B.bq] at y
      injection y with y
      subst y
      have : bi2 = bi := by rw [i.1] at rbi; injection rbi
      subst this
      rcases y3 with ⟨_, y4⟩ | ⟨u, y4⟩
      · exact absurd B.sb (y4 s hs)
      · exact ⟨u, k, i, y4⟩
  have kst : ∀ a, x ≤ a → a ≤ x + 38 → ¬ a = x + 14 → ¬ hK hc a = 11 := fun a h1 h2 h3 y => by have := C.st h1 h2 h3; omega
  have tags := And.intro W.tw (And.intro W.t_rg (And.intro W.t_pl (And.intro W.t_ro (And.intro W.t_pr W.t_ti))))
  have Cm : Cd hm x := C.frame A hx (fun f h1 y => by
      have := kst x (by omega) (by omega) (by omega)
      rcases y.e with y | y | y | y | y | y | y | y <;> omega) (fun f h1 h2 y => by
      have := kst (x + 3) (by omega) (by omega) (by omega)
      rcases y.e with y | y | y | y | y | y | y | y <;> omega) (fun f h1 h2 y => by
      have := kst (x + 5) (by omega) (by omega) (by omega)
      rcases y.e with y | y | y | y | y | y | y | y <;> omega) (fun f h1 h2 y => by
      have := kst (x + 8) (by omega) (by omega) (by omega)
      rcases y.e with y | y | y | y | y | y | y | y <;> omega) (fun y => by
      have := kst (x + 12) (by omega) (by omega) (by omega)
      rcases y.e with y | y | y | y | y | y | y | y <;> omega) (fun u2 f h8 h1 h2 y => by
      have := kst (x + 15 + 3 * u2) (by omega) (by omega) (by omega)
      rcases y.e with y | y | y | y | y | y | y | y <;> omega)
  have nWord : ∀ y f, y < hT hc → hK hc y = 10 → 576 ≤ f → f ≤ 590 → ¬ PX x u w rg pl ro ti bi hc f y := fun y f h1 h2 h3 h4 z => by
    rcases z.e with z | z | z | z | z | z | z | z
    · omega
    · omega
    · rw [z, C.k_tally] at h2; cases h2
    · omega
    · omega
    · omega
    · omega
    · omega
  have q16 : ∀ t, t < 128 → ¬ PX x u w rg pl ro ti bi hc 9999 (x + 16 + 3 * (t / 16)) := fun t ht y => by
    have := kst (x + 16 + 3 * (t / 16)) (by omega) (by omega) (by omega)
    rcases y.e with y | y | y | y | y | y | y | y <;> omega
  have q13 : ¬ PX x u w rg pl ro ti bi hc 9999 (x + 13) := fun y => by
    have := kst (x + 13) (by omega) (by omega) (by omega)
    rcases y.e with y | y | y | y | y | y | y | y <;> omega
  have q2 : ¬ PX x u w rg pl ro ti bi hc 9999 (x + 2) := fun y => by
    have := kst (x + 2) (by omega) (by omega) (by omega)
    rcases y.e with y | y | y | y | y | y | y | y <;> omega
  have csO : ∀ t, t < 128 → ¬ t = s → CsS o x lo t hc hm := fun t ht ne => CsS.of A hx ht (q16 t ht) q13 q2 (fun a f h1 h2 h3 h4 h5 y => by
    rcases y.e with y | ⟨_, y | y | y | y | y⟩ | y | y | y | y | y | y
    · rw [y.1] at h3 h4; omega
    · rw [y] at h3 h4; omega
    · rw [y] at h3 h4; omega
    · rw [y] at h3 h4; omega
    · rw [y] at h3 h4; omega
    · rw [y] at h3 h4; omega
    · omega
    · omega
    · omega
    · omega
    · omega
    · omega) nWord
  have Km : Kn hm hrT x m := fun k hk => by
    obtain ⟨y, y1, y2, y3⟩ := X.K k hk
    have a1 := A.2 y y2
    refine ⟨y, by rw [((A.2 (x + 2) (by omega)).2.2.2 q2 k).2.1]; exact y1, by omega, ?_⟩
    rw [eL k hk]
    exact y3.same a1.1 (fun f h1 h2 => (a1.2.2.1 f (nWord y f y2 y3.k h1 h2)).1)
  have Wm : Ws o lo hm s w rg pl ro pr ti L := W.fr hT1 (fun a h1 h2 h3 h4 h5 => ⟨(A.2 a h2).1, (A.2 a h2).2.1, fun f h6 h7 => ((A.2 a h2).2.2.1 f (fun y => by
    rcases y.e with y | y | y | y | y | y | y | y <;> omega)).2⟩)
  have uI : ∀ u2 f, u2 < 8 → f = 386 ∨ f = 387 → hI hm f (x + 15 + 3 * u2) = hI hc f (x + 15 + 3 * u2) := fun u2 f h8 hf => ((A.2 (x + 15 + 3 * u2) (by omega)).2.2.1 f (fun y => by
    have := kst (x + 15 + 3 * u2) (by omega) (by omega) (by omega)
    rcases y.e with y | y | y | y | y | y | y | y <;> omega)).1
  have rlT : ∀ i, rLn hrT m s i ↔ rLn H m s i := fun i => rLn_same (rI _ (Or.inl rfl)) (rI _ (Or.inr (Or.inr (Or.inl rfl)))) swn
  have avw : ∀ c t, t < 4096 → avB hrT m c t = avB H m c t ∧ wtB hrT m c t = wtB H m c t := fun c t ht => by
    by_cases et : t / 32 = s
    · have en2 := enw (t % 32) (by omega)
      rw [show 32 * s + t % 32 = t by omega] at en2
      unfold avB wtB
      rw [et, sbT s hs, en2.1, en2.2, show decide (rLn hrT m s (t % 32)) = decide (rLn H m s (t % 32)) from decide_eq_decide.mpr (rlT _)]
      exact ⟨rfl, rfl⟩
    · have r := far (t / 32) (by omega) et
      have r2 := r.2.2.2.1 (t % 32) (by omega)
      rw [show 32 * (t / 32) + t % 32 = t by omega] at r2
      unfold avB wtB
      rw [r.2.1.1, r2.2.2.1, r2.2.2.2, show decide (rLn hrT m (t / 32) (t % 32)) = decide (rLn H m (t / 32) (t % 32)) from decide_eq_decide.mpr (rLn_rs r)]
      exact ⟨rfl, rfl⟩
  have blN : ∀ a f, lo ≤ a → a < hT hc → (hK hc a = 8 ∨ hK hc a = 100) → ¬ f = 522 → ¬ f = 9999 → ¬ PX x u w rg pl ro ti bi hc f a := fun a f h1 h2 h3 h4 h5 y => by
    rcases y.e with y | y | y | y | y | y | y | y <;> omega
  have blk : ∀ c2, c2 < 64 → BlockOk o hm hrT x m lo c2 := fun c2 h64 => by
    by_cases ec : c2 = b
    · subst ec
      have a1 := A.2 bl k5
      have a2 := A.2 bi i6
      have aI : ∀ f, 448 ≤ f → f ≤ 454 → hI hm f bl = hI hc f bl ∧ hR hm f bl = hR hc f bl := fun f h1 h2 => a1.2.2.1 f (blN bl f k4 k5 (Or.inl k1) (by omega) (by omega))
      refine Or.inr ⟨bl, bi, by rw [((A.2 (x + 13) (by omega)).2.2.2 q13 c2).2.1]; exact B.bq, ⟨by rw [a1.1]; exact k1, by rw [(aI _ (by omega) (by omega)).1]; exact k2, k3, k4, by omega⟩, ⟨by rw [(aI _ (by omega) (by omega)).2]; exact i1, by rw [a2.1]; exact i2, by rw [a2.2.1]; exact i3, i4, i5, by omega⟩, Or.inr ⟨ub, u1, by rw [(aI _ (by omega) (by omega)).2]; exact u2, ⟨s, hs, by rw [sbT s hs]; exact B.sb⟩, fun t ht y => u4 t ht (by rw [← sbT t ht]; exact y), by rw [(aI _ (by omega) (by omega)).1, rI _ (Or.inr (Or.inl rfl))]; exact u5, by rw [(aI _ (by omega) (by omega)).1, rI _ (Or.inr (Or.inr (Or.inl rfl)))]; exact u6, ?_, ?_, shb⟩⟩
      · rw [(aI _ (by omega) (by omega)).1, u7]
        exact congrArg nI (cn_congr 4096 fun t ht => (avw c2 t ht).1.symm)
      · rw [(aI _ (by omega) (by omega)).1, u8]
        exact congrArg nI (cn_congr 4096 fun t ht => (avw c2 t ht).2.symm)
    · refine (X.B c2 h64).fr hT1 (((A.2 (x + 13) (by omega)).2.2.2 q13 c2).2.1) (fun a h1 h2 h3 h4 => ?_) (fun t ht => by rw [sbT t ht]) (rI _ (Or.inr (Or.inl rfl))) (rI _ (Or.inr (Or.inr (Or.inl rfl)))) (cn_congr 4096 fun t ht => (avw c2 t ht).1) (cn_congr 4096 fun t ht => (avw c2 t ht).2) (fun k hk => sho c2 k h64 ec hk)
      refine ⟨(A.2 a h2).1, (A.2 a h2).2.1, fun f h5 h6 => (A.2 a h2).2.2.1 f (blN a f h1 h2 h4 (by omega) (by omega)), fun j => ((A.2 a h2).2.2.2 (fun y => ?_) j).1⟩
      rcases y.e with y | ⟨_, y | y | y | y | y⟩ | y | y | y | y | y | y
      · rw [y.1] at h3; omega
      · rw [y] at h3; omega
      · rw [y] at h3; omega
      · rw [y] at h3; omega
      · rw [y] at h3; omega
      · rw [y] at h3; omega
      · omega
      · omega
      · omega
      · omega
      · omega
      · omega
  have nfT : ∀ t, t < 128 → ¬ hA hrT (m + 9) t = -1 → t % 16 < sl := fun t ht y => X.nf t ht (by rw [← sbT t ht]; exact y)
  have hlT : hI hrT 705 m = nI ln := by rw [rI _ (Or.inl rfl)]; exact E.hl
  have ME1 : ME o hm hrT x m lo ln sl s b w rg pl ro pr ti L bl := ⟨Cm, Km, by omega, lx, hs, fun u2 h8 => by rw [uI u2 _ h8 (Or.inl rfl)]; exact X.us u2 h8, s16, hlT, l32, fun t ht ne => (X.S t ht).fr X.K l32 (csO t ht ne) (far t ht ne), by rw [((A.2 (x + 16 + 3 * (s / 16)) (by omega)).2.2.2 (q16 s hs) (s % 16)).2.1]; exact z1, Wm, e, WbT, blk, nfT, fun u2 h8 => by
    rw [uI u2 _ h8 (Or.inr rfl), X.uf u2 h8]
    exact congrArg nI (cn_congr sl fun k hk => by rw [sbT _ (by omega)])⟩
  have gi : bt (hI hc 518 w) i0 = true := by rw [E.eg i0 hi]; exact decide_eq_true q
  obtain ⟨_, aw0, _⟩ := E.awk i0 hi gi
  obtain ⟨kc, j1, j2, j3⟩ := meet_all (F := F) (kr := hrT) hF ME1 (Or.inr ⟨rfl, i0, hi, (rlT i0).mpr aw0.1, by rw [(enw i0 hi).1]; exact aw0.2.1, by rw [(enw i0 hi).2]; exact aw0.2.2⟩) (by rw [td, rI _ (Or.inr (Or.inr (Or.inr rfl)))])
  exact ⟨kc, j1, Sx.met Cm Km (by omega) lx (fun u2 h8 => by rw [uI u2 _ h8 (Or.inl rfl)]; exact X.us u2 h8) s16 hlT l32 (fun _ _ => rfl) nfT j2, j3, j2.A, j2.t, j2.u⟩
