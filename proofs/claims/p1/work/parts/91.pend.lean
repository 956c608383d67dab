/-! what is on its way is done -/
theorem SlotOk.reg {o : Nat → Nat} {hc hr kc kr : Hp} {x m lo ln t : Nat} {bs : Nat → Bool} {rgF : Nat → Nat} (S : SlotOk o hc hr x m lo ln t) (K : Kn hc hr x m) (ht : t < 128) (hx : x + 38 < hT hc) (lx : x + 38 < lo) (C : Cd hc x) (A : Fr (PF x bs rgF hc) hc kc) (tg : ∀ s, s < 128 → bs s = true → o (rgF s) = 6 * s + 1 ∧ lo ≤ rgF s) (rI : hI kr 705 m = hI hr 705 m ∧ hI kr 717 m = hI hr 717 m) (R : ∀ a j, ((m + 9) ≤ a ∧ a ≤ (m + 12)) ∨ ((m + 14) ≤ a ∧ a ≤ (m + 17)) → hA kr a j = hA hr a j) (nr : ∀ w rg, hQ hc (x + 16 + 3 * (t / 16)) (t % 16) = some w → hR hc 523 w = some rg → ¬ hA hr (m + 9) t = -1 → ∀ j, j < 16 * ln → hA kc rg j = hA kr (m + 13) (512 * t + j)) : SlotOk o kc kr x m lo ln t := by
  have hT1 := A.1
  have qs : ∀ a j, x ≤ a → a ≤ x + 38 → ¬ a = x + 4 → ¬ a = x + 9 → ¬ a = x + 10 → ¬ a = x + 14 → hQ kc a j = hQ hc a j := fun a j h1 h2 h3 h4 h5 h6 => by
    have k := C.st h1 h2 h6
    refine ((A.2 a (by omega)).2.2.2 (fun y => ?_) j).2.1
    rcases y with y | ⟨_, y | ⟨s, s1, s2, y⟩⟩
    · unfold PA at y; omega
    · omega
    · have := tg s s1 s2; omega
  rcases S with ⟨z1, z2⟩ | ⟨w, rg, pl, ro, pr, ti, L, z1, W, e, z3⟩
  · exact Or.inl ⟨by rw [qs _ _ (by omega) (by omega) (by omega) (by omega) (by omega) (by omega)]; exact z1, by rw [R _ _ (by omega)]; exact z2⟩
  · have wb := W.bw
    have b1 := W.b_rg
    have b2 := W.b_pl
    have b4 := W.b_pr
    have b5 := W.b_ti
    have t1 := W.tw
    have t3 := W.t_pl
    have t5 := W.t_pr
    have t6 := W.t_ti
    have k9 := W.k
    have k100 := W.k_pl
    have k100b := W.k_pr
    have k100c := W.k_ti
    have W2 : Ws o lo kc t w rg pl ro pr ti L := W.fr hT1 (fun a h1 h2 h3 h4 h5 => ⟨(A.2 a h2).1, (A.2 a h2).2.1, fun f h6 h7 => ((A.2 a h2).2.2.1 f (fun y => by
      rcases y with y | ⟨y, _⟩
      · unfold PA at y; omega
      · omega)).2⟩)
    have aw : ∀ f, ¬ f = 9999 → hI kc f w = hI hc f w ∧ hR kc f w = hR hc f w := fun f nf => (A.2 w wb.2).2.2.1 f (fun y => by
      rcases y with y | ⟨y, _⟩
      · unfold PA at y; omega
      · exact nf y)
    have aar : ∀ a, lo ≤ a → a < hT hc → hK hc a = 100 → (∀ s, s < 128 → bs s = true → ¬ a = rgF s) → ∀ j, hA kc a j = hA hc a j := fun a h1 h2 h3 h4 j => ((A.2 a h2).2.2.2 (fun y => by
      rcases y with y | ⟨_, y | ⟨s, s1, s2, y⟩⟩
      · unfold PA at y; omega
      · omega
      · exact h4 s s1 s2 y) j).1
    have apl := aar pl b2.1 b2.2 k100 (fun s s1 s2 y => by have := (tg s s1 s2).1; rw [← y] at this; omega)
    have apr := aar pr b4.1 b4.2 k100b (fun s s1 s2 y => by have := (tg s s1 s2).1; rw [← y] at this; omega)
    have ati := aar ti b5.1 b5.2 k100c (fun s s1 s2 y => by have := (tg s s1 s2).1; rw [← y] at this; omega)
    refine Or.inr ⟨w, rg, pl, ro, pr, ti, L, by rw [qs _ _ (by omega) (by omega) (by omega) (by omega) (by omega) (by omega)]; exact z1, W2, e, ?_⟩
    rcases z3 with ⟨z3, z4⟩ | ⟨b, bl, B, G⟩
    · exact Or.inl ⟨by rw [(aw _ (by omega)).2]; exact z3, by rw [R _ _ (by omega)]; exact z4⟩
    · have nb : ¬ hA hr (m + 9) t = -1 := by rw [B.sb]; exact nI_m1 (by have := B.b64; omega)
      have nreg := nr w rg z1 W.r_rg nb
      have rl : ∀ i, rLn kr m t i ↔ rLn hr m t i := fun i => rLn_same rI.1 rI.2 (R _ _ (by omega))
      have eA : aA kr m t = aA hr m t := funext fun i => decide_eq_decide.mpr (rAw_same rI.1 rI.2 (R _ _ (by omega)) (R _ _ (by omega)) (R _ _ (by omega)))
      have eP : aP kr m t = aP hr m t := funext fun i => R _ _ (by omega)
      refine Or.inr ⟨b, bl, ⟨by rw [(aw _ (by omega)).2]; exact B.blk, by rw [qs _ _ (by omega) (by omega) (by omega) (by omega) (by omega) (by omega)]; exact B.bq, by rw [R _ _ (by omega)]; exact B.sb, B.b64, by rw [(aw _ (by omega)).1, R _ _ (by omega)]; exact B.num, by rw [R _ _ (by omega)]; exact B.wno, by rw [(aw _ (by omega)).1]; exact B.lns, B.lnL, fun i hi => ?_, fun i hi => ?_, fun i hi => ?_, fun i hi => ?_, fun i hi => ?_, fun i r hi hr => ?_, fun i hi => ?_, fun p i hp hi => ?_, fun r hr => ?_, ?_⟩, ?_⟩
      · rw [(aw _ (by omega)).1, B.pre i hi]
        exact decide_eq_decide.mpr (rl i).symm
      · rw [(aw _ (by omega)).1, R _ _ (by omega)]; exact B.end_ i hi
      · rw [(aw _ (by omega)).1, R _ _ (by omega)]; exact B.wai i hi
      · rw [R _ _ (by omega)]; exact fun z => (rl i).mpr (B.le i hi z)
      · rw [R _ _ (by omega), R _ _ (by omega)]; exact fun z => ⟨(rl i).mpr (B.lw i hi z).1, (B.lw i hi z).2⟩
      · rw [nreg (16 * i + r) (by omega), show 16 * (32 * t + i) + r = 512 * t + (16 * i + r) by omega]
      · rw [apl, R _ _ (by omega)]; exact B.pla i hi
      · rw [apr, R _ _ (by omega)]; exact B.prd p i hp hi
      · rw [ati, R _ _ (by omega)]; exact B.tic r hr
      · rw [(aw _ (by omega)).1, R _ _ (by omega)]; exact B.mem
      · have ew : ∀ p, gaW kc (x + 2) p = gaW hc (x + 2) p := fun p => by
          unfold gaW
          rw [qs _ _ (by omega) (by omega) (by omega) (by omega) (by omega) (by omega)]
        have et : ∀ q, (∀ a, q = some a → a < hT hc ∧ hK hc a = 10) → gaT kc w ti q = gaT hc w ti q := fun q hq => by
          cases q with
          | none => rfl
          | some y =>
            obtain ⟨y1, y2⟩ := hq y rfl
            have ay : ∀ f, ¬ f = 9999 → hI kc f y = hI hc f y := fun f nf => ((A.2 y y1).2.2.1 f (fun z => by
              rcases z with z | ⟨z, _⟩
              · have k5 := C.k_pending
                unfold PA at z
                rcases z with z | z | z | z
                · omega
                · omega
                · rw [z.1] at y2; omega
                · omega
              · exact nf z)).1
            show tkm _ _ _ _ = tkm _ _ _ _
            rw [ay _ (by omega), ay _ (by omega), (aw _ (by omega)).1, show hA kc ti = hA hc ti from funext ati]
        unfold Gt
        rw [eA, eP, ew, (aw _ (by omega)).1, (aw _ (by omega)).1, (aw _ (by omega)).1, (aw _ (by omega)).2, et _ (fun a ha => ?_)]
        · exact G
        · unfold gaW at ha
          split at ha
          · cases ha
          · next nz =>
            obtain ⟨j, hj, ej⟩ : ∃ j : Nat, j < 128 ∧ gpl (aA hr m t) (aP hr m t) ln = nI j := by
              rcases pk_ix (gpl (aA hr m t) (aP hr m t) ln) (n := 128) (by decide) with z | z | z
              · exact absurd (Or.inl z) nz
              · exact absurd (Or.inr z) nz
              · exact z
            rw [ej, nI_clamp (by omega)] at ha
            obtain ⟨y2, k1, k2, k3⟩ := K j hj
            rw [k1] at ha
            injection ha with ha
            subst ha
            exact ⟨k2, k3.k⟩
theorem and63 {c : Nat} (h : c < 2 ^ 31) : (nI c &&& 63) = nI (c % 64) := by
  have := pk_and (nI c) (m := 63) 6 (by decide)
  rw [this, pk_tn (by omega)]
def rgO (hc : Hp) (x s : Nat) : Nat := match hQ hc (x + 16 + 3 * (s / 16)) (s % 16) with
  | none => 0
  | some w => (hR hc 523 w).getD 0
theorem busy_of {o : Nat → Nat} {hc H : Hp} {x m lo ln s : Nat} (S : SlotOk o hc H x m lo ln s) (nb : ¬ hA H (m + 9) s = -1) : ∃ w rg pl ro pr ti L b bl, hQ hc (x + 16 + 3 * (s / 16)) (s % 16) = some w ∧ Ws o lo hc s w rg pl ro pr ti L ∧ Wb hc H x m s ln b w rg pl pr ti L bl ∧ rgO hc x s = rg := by
  rcases S with ⟨_, z2⟩ | ⟨w, rg, pl, ro, pr, ti, L, z1, W, e, z3⟩
  · exact absurd z2 nb
  · rcases z3 with ⟨_, z4⟩ | ⟨b, bl, B, G⟩
    · exact absurd z4 nb
    · refine ⟨w, rg, pl, ro, pr, ti, L, b, bl, z1, W, B, ?_⟩
      unfold rgO
      rw [z1]
      dsimp only
      rw [W.r_rg]
      rfl
