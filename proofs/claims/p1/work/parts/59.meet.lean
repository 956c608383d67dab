/-! blocks that meet: the class goes with the reference -/
theorem Wb.rs {hc hr kr : Hp} {x m s ln b w rg pl pr ti L bl : Nat} (B : Wb hc hr x m s ln b w rg pl pr ti L bl) (l32 : ln ≤ 32) (R : Rs m s hr kr) : Wb hc kr x m s ln b w rg pl pr ti L bl := by
  refine ⟨B.blk, B.bq, by rw [R.2.1.1]; exact B.sb, B.b64, by rw [R.2.1.2.1]; exact B.num, by rw [R.2.1.2.1]; exact B.wno, B.lns, B.lnL, fun i hi => ?_, fun i hi => ?_, fun i hi => ?_, fun i hi => ?_, fun i hi => ?_, fun i r hi hr => ?_, fun i hi => ?_, fun p i hp hi => ?_, fun r hr => ?_, ?_⟩
  · rw [B.pre i hi]
    exact decide_eq_decide.mpr (rLn_rs R).symm
  · rw [(R.2.2.2.1 i hi).2.2.1]
    exact B.end_ i hi
  · rw [(R.2.2.2.1 i hi).2.2.2]
    exact B.wai i hi
  · rw [(R.2.2.2.1 i hi).2.2.1]
    exact fun z => (rLn_rs R).mpr (B.le i hi z)
  · rw [(R.2.2.2.1 i hi).2.2.1, (R.2.2.2.1 i hi).2.2.2]
    exact fun z => ⟨(rLn_rs R).mpr (B.lw i hi z).1, (B.lw i hi z).2⟩
  · rw [show 16 * (32 * s + i) + r = 512 * s + (16 * i + r) by omega, R.2.2.2.2 _ (by omega), show 512 * s + (16 * i + r) = 16 * (32 * s + i) + r by omega]
    exact B.reg i r hi hr
  · rw [(R.2.2.2.1 i (by omega)).2.1]
    exact B.pla i hi
  · rw [(R.2.2.2.1 i hi).1]
    exact B.prd p i hp hi
  · rw [R.2.2.1 r hr]
    exact B.tic r hr
  · rw [R.2.1.2.2]
    exact B.mem
def ME (o : Nat → Nat) (hc hr : Hp) (x m lo ln sl s b w rg pl ro pr ti L bl : Nat) : Prop := (Cd hc x) ∧ (Kn hc hr x m) ∧ (x + 38 < hT hc) ∧ (x + 38 < lo) ∧ (s < 128) ∧ (∀ u, u < 8 → hI hc 386 (x + 15 + 3 * u) = nI sl) ∧ (sl ≤ 16) ∧ (hI hr 705 m = nI ln) ∧ (ln ≤ 32) ∧ (∀ t, t < 128 → ¬ t = s → SlotOk o hc hr x m lo ln t) ∧ (hQ hc (x + 16 + 3 * (s / 16)) (s % 16) = some w) ∧ (Ws o lo hc s w rg pl ro pr ti L) ∧ (∃ e, e ≤ 5 ∧ L = 2 ^ e) ∧ (Wb hc hr x m s ln b w rg pl pr ti L bl) ∧ (∀ c, c < 64 → BlockOk o hc hr x m lo c) ∧ (∀ t, t < 128 → ¬ hA hr (m + 9) t = -1 → t % 16 < sl) ∧ (∀ u, u < 8 → hI hc 387 (x + 15 + 3 * u) = nI (cn (fun k => decide (hA hr (m + 9) (16 * u + k) = -1)) sl))
theorem ME.C {o : Nat → Nat} {hc hr : Hp} {x m lo ln sl s b w rg pl ro pr ti L bl : Nat} (H : ME o hc hr x m lo ln sl s b w rg pl ro pr ti L bl) : Cd hc x := H.1
theorem ME.K {o : Nat → Nat} {hc hr : Hp} {x m lo ln sl s b w rg pl ro pr ti L bl : Nat} (H : ME o hc hr x m lo ln sl s b w rg pl ro pr ti L bl) : Kn hc hr x m := H.2.1
theorem ME.hx {o : Nat → Nat} {hc hr : Hp} {x m lo ln sl s b w rg pl ro pr ti L bl : Nat} (H : ME o hc hr x m lo ln sl s b w rg pl ro pr ti L bl) : x + 38 < hT hc := H.2.2.1
theorem ME.lx {o : Nat → Nat} {hc hr : Hp} {x m lo ln sl s b w rg pl ro pr ti L bl : Nat} (H : ME o hc hr x m lo ln sl s b w rg pl ro pr ti L bl) : x + 38 < lo := H.2.2.2.1
theorem ME.hs {o : Nat → Nat} {hc hr : Hp} {x m lo ln sl s b w rg pl ro pr ti L bl : Nat} (H : ME o hc hr x m lo ln sl s b w rg pl ro pr ti L bl) : s < 128 := H.2.2.2.2.1
theorem ME.us {o : Nat → Nat} {hc hr : Hp} {x m lo ln sl s b w rg pl ro pr ti L bl : Nat} (H : ME o hc hr x m lo ln sl s b w rg pl ro pr ti L bl) : ∀ u, u < 8 → hI hc 386 (x + 15 + 3 * u) = nI sl := H.2.2.2.2.2.1
theorem ME.s16 {o : Nat → Nat} {hc hr : Hp} {x m lo ln sl s b w rg pl ro pr ti L bl : Nat} (H : ME o hc hr x m lo ln sl s b w rg pl ro pr ti L bl) : sl ≤ 16 := H.2.2.2.2.2.2.1
theorem ME.hl {o : Nat → Nat} {hc hr : Hp} {x m lo ln sl s b w rg pl ro pr ti L bl : Nat} (H : ME o hc hr x m lo ln sl s b w rg pl ro pr ti L bl) : hI hr 705 m = nI ln := H.2.2.2.2.2.2.2.1
theorem ME.l32 {o : Nat → Nat} {hc hr : Hp} {x m lo ln sl s b w rg pl ro pr ti L bl : Nat} (H : ME o hc hr x m lo ln sl s b w rg pl ro pr ti L bl) : ln ≤ 32 := H.2.2.2.2.2.2.2.2.1
theorem ME.oth {o : Nat → Nat} {hc hr : Hp} {x m lo ln sl s b w rg pl ro pr ti L bl : Nat} (H : ME o hc hr x m lo ln sl s b w rg pl ro pr ti L bl) : ∀ t, t < 128 → ¬ t = s → SlotOk o hc hr x m lo ln t := H.2.2.2.2.2.2.2.2.2.1
theorem ME.z1 {o : Nat → Nat} {hc hr : Hp} {x m lo ln sl s b w rg pl ro pr ti L bl : Nat} (H : ME o hc hr x m lo ln sl s b w rg pl ro pr ti L bl) : hQ hc (x + 16 + 3 * (s / 16)) (s % 16) = some w := H.2.2.2.2.2.2.2.2.2.2.1
theorem ME.W {o : Nat → Nat} {hc hr : Hp} {x m lo ln sl s b w rg pl ro pr ti L bl : Nat} (H : ME o hc hr x m lo ln sl s b w rg pl ro pr ti L bl) : Ws o lo hc s w rg pl ro pr ti L := H.2.2.2.2.2.2.2.2.2.2.2.1
theorem ME.e {o : Nat → Nat} {hc hr : Hp} {x m lo ln sl s b w rg pl ro pr ti L bl : Nat} (H : ME o hc hr x m lo ln sl s b w rg pl ro pr ti L bl) : ∃ e, e ≤ 5 ∧ L = 2 ^ e := H.2.2.2.2.2.2.2.2.2.2.2.2.1
theorem ME.B {o : Nat → Nat} {hc hr : Hp} {x m lo ln sl s b w rg pl ro pr ti L bl : Nat} (H : ME o hc hr x m lo ln sl s b w rg pl ro pr ti L bl) : Wb hc hr x m s ln b w rg pl pr ti L bl := H.2.2.2.2.2.2.2.2.2.2.2.2.2.1
theorem ME.blk {o : Nat → Nat} {hc hr : Hp} {x m lo ln sl s b w rg pl ro pr ti L bl : Nat} (H : ME o hc hr x m lo ln sl s b w rg pl ro pr ti L bl) : ∀ c, c < 64 → BlockOk o hc hr x m lo c := H.2.2.2.2.2.2.2.2.2.2.2.2.2.2.1
theorem ME.nf {o : Nat → Nat} {hc hr : Hp} {x m lo ln sl s b w rg pl ro pr ti L bl : Nat} (H : ME o hc hr x m lo ln sl s b w rg pl ro pr ti L bl) : ∀ t, t < 128 → ¬ hA hr (m + 9) t = -1 → t % 16 < sl := H.2.2.2.2.2.2.2.2.2.2.2.2.2.2.2.1
theorem ME.uf {o : Nat → Nat} {hc hr : Hp} {x m lo ln sl s b w rg pl ro pr ti L bl : Nat} (H : ME o hc hr x m lo ln sl s b w rg pl ro pr ti L bl) : ∀ u, u < 8 → hI hc 387 (x + 15 + 3 * u) = nI (cn (fun k => decide (hA hr (m + 9) (16 * u + k) = -1)) sl) := H.2.2.2.2.2.2.2.2.2.2.2.2.2.2.2.2

/-- what holds after the meeting -/
def MR (o : Nat → Nat) (hc kc kr : Hp) (x m lo ln sl : Nat) : Prop := (Fr (PG hc x lo) hc kc) ∧ (hT kc = hT hc) ∧ (hU kc = hU hc) ∧ (∀ t, t < 128 → SlotOk o kc kr x m lo ln t) ∧ (∀ c, c < 64 → BlockOk o kc kr x m lo c) ∧ (∀ u, u < 8 → hI kc 387 (x + 15 + 3 * u) = nI (cn (fun k => decide (hA kr (m + 9) (16 * u + k) = -1)) sl))
theorem MR.A {o : Nat → Nat} {hc kc kr : Hp} {x m lo ln sl : Nat} (H : MR o hc kc kr x m lo ln sl) : Fr (PG hc x lo) hc kc := H.1
theorem MR.t {o : Nat → Nat} {hc kc kr : Hp} {x m lo ln sl : Nat} (H : MR o hc kc kr x m lo ln sl) : hT kc = hT hc := H.2.1
theorem MR.u {o : Nat → Nat} {hc kc kr : Hp} {x m lo ln sl : Nat} (H : MR o hc kc kr x m lo ln sl) : hU kc = hU hc := H.2.2.1
theorem MR.S {o : Nat → Nat} {hc kc kr : Hp} {x m lo ln sl : Nat} (H : MR o hc kc kr x m lo ln sl) : ∀ t, t < 128 → SlotOk o kc kr x m lo ln t := H.2.2.2.1
theorem MR.B {o : Nat → Nat} {hc kc kr : Hp} {x m lo ln sl : Nat} (H : MR o hc kc kr x m lo ln sl) : ∀ c, c < 64 → BlockOk o kc kr x m lo c := H.2.2.2.2.1
theorem MR.uf {o : Nat → Nat} {hc kc kr : Hp} {x m lo ln sl : Nat} (H : MR o hc kc kr x m lo ln sl) : ∀ u, u < 8 → hI kc 387 (x + 15 + 3 * u) = nI (cn (fun k => decide (hA kr (m + 9) (16 * u + k) = -1)) sl) := H.2.2.2.2.2

/-- the block of a busy slot -/
theorem ME.bl {o : Nat → Nat} {hc hr : Hp} {x m lo ln sl s b w rg pl ro pr ti L bl : Nat} (E : ME o hc hr x m lo ln sl s b w rg pl ro pr ti L bl) : ∃ bi u, (hK hc bl = 8 ∧ hI hc 448 bl = nI b ∧ o bl = 1000 + 2 * b ∧ lo ≤ bl ∧ bl < hT hc) ∧ (hR hc 449 bl = some bi ∧ hK hc bi = 100 ∧ hN hc bi = 64 ∧ o bi = 1001 + 2 * b ∧ lo ≤ bi ∧ bi < hT hc) ∧ BlIn hc hr x m b bl bi u := by
  rcases E.blk b E.B.b64 with ⟨z1, _⟩ | ⟨bl2, bi, z1, k, i, z3⟩
  · rw [E.B.bq] at z1; cases z1
  · rw [E.B.bq] at z1
    injection z1 with z1
    subst z1
    rcases z3 with ⟨_, z4⟩ | ⟨u, z4⟩
    · exact absurd E.B.sb (z4 s E.hs)
    · exact ⟨bi, u, k, i, z4⟩
theorem cnt_rs {hr kr : Hp} {m c : Nat} (R : ∀ t, t < 128 → Rs m t hr kr) : cn (avB kr m c) 4096 = cn (avB hr m c) 4096 ∧ cn (wtB kr m c) 4096 = cn (wtB hr m c) 4096 := by
  constructor
  · refine cn_congr 4096 fun t ht => ?_
    have r := R (t / 32) (by omega)
    have r2 := (r.2.2.2.1 (t % 32) (by omega)).2.2.1
    rw [show 32 * (t / 32) + t % 32 = t by omega] at r2
    unfold avB
    rw [r.2.1.1, r2, show decide (rLn kr m (t / 32) (t % 32)) = decide (rLn hr m (t / 32) (t % 32)) from decide_eq_decide.mpr (rLn_rs r)]
  · refine cn_congr 4096 fun t ht => ?_
    have r := R (t / 32) (by omega)
    have r2 := (r.2.2.2.1 (t % 32) (by omega)).2.2.2
    rw [show 32 * (t / 32) + t % 32 = t by omega] at r2
    unfold wtB
    rw [r.2.1.1, r2]
/-- nobody meets -/
theorem meetA {o : Nat → Nat} {hc hr : Hp} {x m lo ln sl s b w rg pl ro pr ti L bl : Nat} {F : Nat} {kr : Hp} (hF : 40000 ≤ F) (E : ME o hc hr x m lo ln sl s b w rg pl ro pr ti L bl) (na : ¬ hI hc 453 bl = 0) (nw : ¬ hI hc 454 bl = hI hc 453 bl) (R : ∀ t, t < 128 → Rs m t hr kr) (eb : hI kr 716 m = hI hr 716 m) (es : ∀ j, hA kr (m + 18) j = hA hr (m + 18) j) (eL : ∀ k, k < 128 → hL kr (m + 1) k = hL hr (m + 1) k) : ∃ kc, b_WM_go_225 F x w hc = some kc ∧ MR o hc kc kr x m lo ln sl ∧ hI kc 324 (x + 11) = hI hc 324 (x + 11) := by
  obtain ⟨bi, u, ⟨k1, k2, k3, k4, k5⟩, i, u1, u2, _⟩ := E.bl
  have C := E.C
  have W := E.W
  have B := E.B
  have lx := E.lx
  have K2 : Kn hc kr x m := fun k hk => by rw [eL k hk]; exact E.K k hk
  obtain ⟨kc, g1, g2, g3, g4, g5⟩ := gather_slot (F := F) hF C K2 E.hx lx E.hs (by rw [(R s E.hs).1.1]; exact E.hl) E.l32 E.z1 W E.e (B.rs E.l32 (R s E.hs))
  have me : f_WM_meet F x (some bl) hc = some hc := by rw [f_WM_meet, rq_some k1, pw_e, u2, nu_some, if_neg na, if_neg nw]
  have A2 : Fr (fun f a => a = w ∧ 512 ≤ f ∧ f ≤ 521) hc kc := g2.mono (fun f a _ z => ⟨z.1, by have := z.2.1; omega, z.2.2⟩)
  have bw := W.bw
  refine ⟨kc, ?_, ⟨g2.mono (fun f a _ z => Or.inl ⟨by rw [z.1]; exact bw.1, by rw [z.1]; exact W.k, Or.inr ⟨by have := z.2.1; omega, z.2.2⟩⟩), g3, g4, fun t ht => ?_, fun c hc2 => ?_, fun v hv => ?_⟩, ?_⟩
  · rw [b_WM_go_225, gd_t W.k, pw_e, B.blk, gd_t C.k, me, clv_some, gd_t C.k, rq_k C.r_kernel C.k_kernel, gd_t W.k, g1, clv_some]
  · by_cases et : t = s
    · rw [et]; exact g5
    · exact (E.oth t ht et).fr E.K E.l32 (CsS.one C A2 E.hx lx ht W.tw bw.1 W.k et) (R t ht)
  · have hx := E.hx
    refine (E.blk c hc2).fr (by omega) (((g2.2 (x + 13) (by omega)).2.2.2 (fun z => by have := z.1; omega) c).2.1) (fun a h1 h2 h3 h4 => ?_) (fun t ht => by rw [(R t ht).2.1.1]) eb (R s E.hs).1.2 (cnt_rs R).1 (cnt_rs R).2 (fun k _ => es _)
    have na2 : ¬ a = w := fun z => by rw [z, W.tw] at h3; have := E.hs; omega
    obtain ⟨q1, q2, q3, q4⟩ := g2.2 a h2
    exact ⟨q1, q2, fun f _ _ => q3 f (fun z => na2 z.1), fun j => (q4 (fun z => na2 z.1) j).1⟩
  · rw [((g2.2 (x + 15 + 3 * v) (by have := E.hx; omega)).2.2.1 _ (fun z => by have := z.1; omega)).1, E.uf v hv]
    congr 1
    refine cn_congr sl fun k hk => ?_
    rw [(R (16 * v + k) (by have := E.s16; omega)).2.1.1]
  · rw [((g2.2 (x + 11) (by have := E.hx; omega)).2.2.1 _ (fun z => by have := z.1; omega)).1]
/-- the slots of a unit, before its block is woken or freed -/
theorem ME.pre {o : Nat → Nat} {hc hr : Hp} {x m lo ln sl s b w rg pl ro pr ti L bl : Nat} (E : ME o hc hr x m lo ln sl s b w rg pl ro pr ti L bl) {t : Nat} (ht : t < 128) : (hA hr (m + 9) t = nI b → SlotB o hc hr x m lo ln t b) ∧ (¬ hA hr (m + 9) t = nI b → SlotOk o hc hr x m lo ln t ∧ ∀ w2, hQ hc (x + 16 + 3 * (t / 16)) (t % 16) = some w2 → ¬ hR hc 512 w2 = some bl) := by
  have B := E.B
  by_cases et : t = s
  · subst et
    exact ⟨fun _ => ⟨w, rg, pl, ro, pr, ti, L, bl, E.z1, E.W, E.e, B⟩, fun z => absurd B.sb z⟩
  · have S := E.oth t ht et
    constructor
    · intro z
      rcases S with ⟨_, y⟩ | ⟨w2, rg2, pl2, ro2, pr2, ti2, L2, z1, W2, e2, y⟩
      · rw [y] at z; exact absurd z.symm (nI_m1 (by have := B.b64; omega))
      · rcases y with ⟨_, y⟩ | ⟨b2, bl2, B2, _⟩
        · rw [y] at z; exact absurd z.symm (nI_m1 (by have := B.b64; omega))
        · have : b2 = b := (nI_eq (by have := B2.b64; omega) (by have := B.b64; omega)).mp (B2.sb.symm.trans z)
          subst this
          exact ⟨w2, rg2, pl2, ro2, pr2, ti2, L2, bl2, z1, W2, e2, B2⟩
    · intro z
      refine ⟨S, fun w2 hw2 hb2 => ?_⟩
      rcases S with ⟨y, _⟩ | ⟨w3, rg2, pl2, ro2, pr2, ti2, L2, z1, W2, e2, y⟩
      · rw [y] at hw2; cases hw2
      · rw [z1] at hw2
        injection hw2 with hw2
        subst hw2
        rcases y with ⟨y, _⟩ | ⟨b2, bl2, B2, _⟩
        · rw [y] at hb2; cases hb2
        · have nb : ¬ b2 = b := fun q => z (by rw [← q]; exact B2.sb)
          have := blk_ne (E.blk b2 B2.b64) (E.blk b B.b64) B2.bq B.bq nb
          rw [B2.blk] at hb2
          injection hb2 with hb2
          exact this hb2
theorem bz_q {h : Hp} {wa k w : Nat} (e : bz h wa k = some w) : hQ h wa k = some w := by
  unfold bz at e
  split at e
  · cases e
  · next w2 hw2 =>
    split at e
    · cases e
    · injection e with e
      rw [← e]; exact hw2
