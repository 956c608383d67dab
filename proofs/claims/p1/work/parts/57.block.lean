/-! blocks side by side: what leaves them alone -/
theorem BlockOk.fr {o : Nat → Nat} {hc hr kc kr : Hp} {x m lo b : Nat} (S : BlockOk o hc hr x m lo b) (hT1 : hT hc ≤ hT kc) (q1 : hQ kc (x + 13) b = hQ hc (x + 13) b) (A : ∀ a, lo ≤ a → a < hT hc → (o a = 1000 + 2 * b ∨ o a = 1001 + 2 * b) → (hK hc a = 8 ∨ hK hc a = 100) → hK kc a = hK hc a ∧ hN kc a = hN hc a ∧ (∀ f, 448 ≤ f → f ≤ 454 → hI kc f a = hI hc f a ∧ hR kc f a = hR hc f a) ∧ ∀ j, hA kc a j = hA hc a j) (r1 : ∀ s, s < 128 → (hA kr (m + 9) s = nI b ↔ hA hr (m + 9) s = nI b)) (r2 : hI kr 716 m = hI hr 716 m) (r3 : hI kr 717 m = hI hr 717 m) (r4 : cn (avB kr m b) 4096 = cn (avB hr m b) 4096) (r5 : cn (wtB kr m b) 4096 = cn (wtB hr m b) 4096) (r6 : ∀ k, k < 64 → hA kr (m + 18) (64 * b + k) = hA hr (m + 18) (64 * b + k)) : BlockOk o kc kr x m lo b := by
  rcases S with ⟨z1, z2⟩ | ⟨bl, bi, z1, ⟨k1, k2, k3, k4, k5⟩, ⟨i1, i2, i3, i4, i5, i6⟩, z3⟩
  · exact Or.inl ⟨by rw [q1]; exact z1, fun s hs z => z2 s hs ((r1 s hs).mp z)⟩
  · have a1 := A bl k4 k5 (Or.inl k3) (Or.inl k1)
    have a2 := A bi i5 i6 (Or.inr i4) (Or.inr i2)
    refine Or.inr ⟨bl, bi, by rw [q1]; exact z1, ⟨by rw [a1.1]; exact k1, by rw [(a1.2.2.1 _ (by decide) (by decide)).1]; exact k2, k3, k4, by omega⟩, ⟨by rw [(a1.2.2.1 _ (by decide) (by decide)).2]; exact i1, by rw [a2.1]; exact i2, by rw [a2.2.1]; exact i3, i4, i5, by omega⟩, ?_⟩
    rcases z3 with ⟨z3, z4⟩ | ⟨u, u1, u2, ⟨s0, u3, u4⟩, u5, u6, u7, u8, u9, u10⟩
    · exact Or.inl ⟨by rw [(a1.2.2.1 _ (by decide) (by decide)).2]; exact z3, fun s hs z => z4 s hs ((r1 s hs).mp z)⟩
    · refine Or.inr ⟨u, u1, by rw [(a1.2.2.1 _ (by decide) (by decide)).2]; exact u2, ⟨s0, u3, (r1 s0 u3).mpr u4⟩, fun s hs z => u5 s hs ((r1 s hs).mp z), by rw [(a1.2.2.1 _ (by decide) (by decide)).1, r2]; exact u6, by rw [(a1.2.2.1 _ (by decide) (by decide)).1, r3]; exact u7, by rw [(a1.2.2.1 _ (by decide) (by decide)).1, r4]; exact u8, by rw [(a1.2.2.1 _ (by decide) (by decide)).1, r5]; exact u9, fun k hk => by rw [a2.2.2.2, r6 k hk]; exact u10 k hk⟩
/-- different blocks have different cells -/
theorem blk_ne {o : Nat → Nat} {hc hr : Hp} {x m lo b c bl cl2 : Nat} (S : BlockOk o hc hr x m lo b) (T : BlockOk o hc hr x m lo c) (e1 : hQ hc (x + 13) b = some bl) (e2 : hQ hc (x + 13) c = some cl2) (ne : ¬ b = c) : ¬ bl = cl2 := by
  rcases S with ⟨z1, _⟩ | ⟨b1, _, z1, ⟨_, _, k3, _⟩, _⟩
  · rw [z1] at e1; cases e1
  · rcases T with ⟨y1, _⟩ | ⟨c1, _, y1, ⟨_, _, l3, _⟩, _⟩
    · rw [y1] at e2; cases e2
    · rw [z1] at e1
      rw [y1] at e2
      injection e1 with e1
      injection e2 with e2
      intro z
      rw [e1] at k3
      rw [e2, ← z] at l3
      omega
/-! the reference after blocks have met -/
theorem stG_w {h : Hp} {m ln s i : Nat} {b : Int32} {p2 p3 : Bool} (hs : s < 128) (hi : i < 32) : stG h m ln b p2 p3 128 0 (m + 17) (32 * s + i) = if p2 = true ∧ hA h (m + 9) s = b ∧ i < ln then 0 else hA h (m + 17) (32 * s + i) := by
  unfold stG
  rw [show (32 * s + i) / 32 = s by omega, show (32 * s + i) % 32 = i by omega]
  by_cases z : p2 = true ∧ hA h (m + 9) s = b ∧ i < ln
  · rw [if_pos z, if_pos ⟨rfl, z.1, z.2.1, Or.inl ⟨hs, z.2.2⟩⟩]
  · rw [if_neg z, if_neg (fun y => z ⟨y.2.1, y.2.2.1, by rcases y.2.2.2 with q | q <;> omega⟩), if_neg (fun y => by have := y.1; omega)]
theorem stG_s {h : Hp} {m ln s : Nat} {b : Int32} {p2 p3 : Bool} (hs : s < 128) : stG h m ln b p2 p3 128 0 (m + 9) s = if p3 = true ∧ hA h (m + 9) s = b then -1 else hA h (m + 9) s := by
  unfold stG
  rw [if_neg (fun y => by have := y.1; omega)]
  by_cases z : p3 = true ∧ hA h (m + 9) s = b
  · rw [if_pos z, if_pos ⟨rfl, z.1, hs, z.2⟩]
  · rw [if_neg z, if_neg (fun y => z ⟨y.2.1, y.2.2.2⟩)]
theorem stG_o {h : Hp} {m ln a j : Nat} {b : Int32} {p2 p3 : Bool} (n1 : ¬ a = (m + 17)) (n2 : ¬ a = (m + 9)) : stG h m ln b p2 p3 128 0 a j = hA h a j := by
  unfold stG
  rw [if_neg (fun y => n1 y.1), if_neg (fun y => n2 y.1)]
/-- the heap after the meeting -/
def seH (h : Hp) (m ln : Nat) (b : Int32) (p2 p3 : Bool) : Hp := sI (oA h (stG h m ln b p2 p3 128 0)) 725 m (hI h 725 m + bI (p3 = true))
theorem se_I {h : Hp} {m ln f : Nat} {b : Int32} {p2 p3 : Bool} (nf : ¬ f = 725) : hI (seH h m ln b p2 p3) f m = hI h f m := by
  unfold seH
  rw [qI_sI, if_neg (fun y => nf y.1), qI_oA]
theorem se_A {h : Hp} {m ln a j : Nat} {b : Int32} {p2 p3 : Bool} : hA (seH h m ln b p2 p3) a j = stG h m ln b p2 p3 128 0 a j := by
  unfold seH
  rw [qA_sI, qA_oA]
theorem se_rs {h : Hp} {m ln s : Nat} {b : Int32} {p2 p3 : Bool} (hs : s < 128) (nb : ¬ hA h (m + 9) s = b ∨ (p2 = false ∧ p3 = false)) : Rs m s h (seH h m ln b p2 p3) := by
  have sb : hA (seH h m ln b p2 p3) (m + 9) s = hA h (m + 9) s := by
    rw [se_A, stG_s hs, if_neg (fun z => by
      rcases nb with y | y
      · exact y z.2
      · rw [y.2] at z; cases z.1)]
  refine ⟨⟨se_I (by decide), se_I (by decide)⟩, ⟨sb, by rw [se_A, stG_o (by omega) (by omega)], by rw [se_A, stG_o (by omega) (by omega)]⟩, fun r _ => by rw [se_A, stG_o (by omega) (by omega)], fun i hi => ⟨by rw [se_A, stG_o (by omega) (by omega)], by rw [se_A, stG_o (by omega) (by omega)], by rw [se_A, stG_o (by omega) (by omega)], ?_⟩, fun j _ => by rw [se_A, stG_o (by omega) (by omega)]⟩
  rw [se_A, stG_w hs hi, if_neg (fun z => by
    rcases nb with y | y
    · exact y z.2.1
    · rw [y.1] at z; cases z.1)]
theorem se_rw {h : Hp} {m ln s : Nat} {b : Int32} (hs : s < 128) (l32 : ln ≤ 32) (hb : hA h (m + 9) s = b) (hl : hI h 705 m = nI ln) (lw : ∀ i, i < 32 → ¬ hA h (m + 17) (32 * s + i) = 0 → rLn h m s i) : Rw m s h (seH h m ln b true false) := by
  have sb : hA (seH h m ln b true false) (m + 9) s = hA h (m + 9) s := by rw [se_A, stG_s hs, if_neg (fun z => by cases z.1)]
  refine ⟨⟨se_I (by decide), se_I (by decide)⟩, ⟨sb, by rw [se_A, stG_o (by omega) (by omega)], by rw [se_A, stG_o (by omega) (by omega)]⟩, fun r _ => by rw [se_A, stG_o (by omega) (by omega)], fun i hi => ⟨by rw [se_A, stG_o (by omega) (by omega)], by rw [se_A, stG_o (by omega) (by omega)], by rw [se_A, stG_o (by omega) (by omega)], ?_⟩, fun j _ => by rw [se_A, stG_o (by omega) (by omega)]⟩
  rw [se_A, stG_w hs hi]
  by_cases z : i < ln
  · rw [if_pos ⟨rfl, hb, z⟩]
  · rw [if_neg (fun y => z y.2.2)]
    by_cases w0 : hA h (m + 17) (32 * s + i) = 0
    · exact w0
    · have := (lw i hi w0).1
      rw [hl] at this
      exact absurd (nI_le (by omega) (by omega)) this
/-- gathering a warp, whatever it is -/
theorem c_gather_any {F : Nat} {hc hr : Hp} {x m w rg pl ro pr ti ln : Nat} (hF : 40000 ≤ F) (C : Cd hc x) (K : Kn hc hr x m) (W : Wp hc w rg pl ro pr ti ln) : ∃ k, f_Warp_gather F w (some (x + 2)) hc = some k ∧ Fr (fun f a => a = w ∧ 518 ≤ f ∧ f ≤ 521) hc k ∧ hT k = hT hc ∧ hU k = hU hc := by
  have ga := c_Warp_gather (F := F) W hF C.k_kernel C.n_kernel rfl (fun a ea => by
    unfold gaW at ea
    split at ea
    · cases ea
    · next nz =>
      obtain ⟨j, hj, ej⟩ : ∃ j : Nat, j < 128 ∧ gpl (bt ((hI hc 515 w &&& (hI hc 516 w ^^^ -1)) &&& (hI hc 517 w ^^^ -1))) (hA hc pl) ln = nI j := by
        rcases pk_ix (gpl (bt ((hI hc 515 w &&& (hI hc 516 w ^^^ -1)) &&& (hI hc 517 w ^^^ -1))) (hA hc pl) ln) (n := 128) (by decide) with z | z | z
        · exact absurd (Or.inl z) nz
        · exact absurd (Or.inr z) nz
        · exact z
      rw [ej, nI_clamp (by omega)] at ea
      obtain ⟨y2, k1, k2, k3⟩ := K j hj
      rw [k1] at ea
      injection ea with ea
      rw [← ea]
      exact k3.k)
  refine ⟨_, ga, ?_, ?_, ?_⟩
  · unfold gaH s2
    exact ((((Fr.refl hc).cI ⟨rfl, by decide, by decide⟩).cI ⟨rfl, by decide, by decide⟩).cR ⟨rfl, by decide, by decide⟩).cI ⟨rfl, by decide, by decide⟩
  · unfold gaH s2
    rw [qT_sI, qT_sR, qT_sI, qT_sI]
  · unfold gaH s2
    rw [qU_sI, qU_sR, qU_sI, qU_sI]
/-- a busy slot, gathered -/
theorem gather_slot {F : Nat} {o : Nat → Nat} {hc hr : Hp} {x m lo ln s b w rg pl ro pr ti L bl : Nat} (hF : 40000 ≤ F) (C : Cd hc x) (K : Kn hc hr x m) (hx : x + 38 < hT hc) (lx : x + 38 < lo) (hs : s < 128) (hl : hI hr 705 m = nI ln) (l32 : ln ≤ 32) (z1 : hQ hc (x + 16 + 3 * (s / 16)) (s % 16) = some w) (W : Ws o lo hc s w rg pl ro pr ti L) (e : ∃ e, e ≤ 5 ∧ L = 2 ^ e) (B : Wb hc hr x m s ln b w rg pl pr ti L bl) : ∃ k, f_Warp_gather F w (some (x + 2)) hc = some k ∧ Fr (fun f a => a = w ∧ 518 ≤ f ∧ f ≤ 521) hc k ∧ hT k = hT hc ∧ hU k = hU hc ∧ SlotOk o k hr x m lo ln s := by
  obtain ⟨k, g1, g2, g3, g4, g5⟩ := c_gather_ok (F := F) hF C K hx lx W B hl l32
  refine ⟨k, g1, g2, g3, g4, Or.inr ⟨w, rg, pl, ro, pr, ti, L, ?_, ?_, e, Or.inr ⟨b, bl, ?_, g5⟩⟩⟩
  · rw [((g2.2 _ (by omega)).2.2.2 (fun z => by have := z.1; have := W.bw.1; omega) _).2.1]; exact z1
  · exact W.fr (by rw [g3]; exact Nat.le_refl _) (fun a h1 h2 _ _ _ => ⟨(g2.2 a h2).1, (g2.2 a h2).2.1, fun f f1 f2 => ((g2.2 a h2).2.2.1 f (fun z => by have := z.2.2; omega)).2⟩)
  · have gw := g2.2 w W.bw.2
    have ga : ∀ a, a < hT hc → ¬ a = w → ∀ j, hA k a j = hA hc a j := fun a ha na j => ((g2.2 a ha).2.2.2 (fun z => na z.1) j).1
    have gf : ∀ f, f < 518 ∨ 521 < f → hI k f w = hI hc f w ∧ hR k f w = hR hc f w := fun f z => gw.2.2.1 f (fun y => by have := y.2; omega)
    have nrg : ¬ rg = w := fun z => by have := W.t_rg; rw [z, W.tw] at this; omega
    have npl : ¬ pl = w := fun z => by have := W.t_pl; rw [z, W.tw] at this; omega
    have npr : ¬ pr = w := fun z => by have := W.t_pr; rw [z, W.tw] at this; omega
    have nti : ¬ ti = w := fun z => by have := W.t_ti; rw [z, W.tw] at this; omega
    refine ⟨by rw [(gf _ (Or.inl (by decide))).2]; exact B.blk, ?_, B.sb, B.b64, by rw [(gf _ (Or.inl (by decide))).1]; exact B.num, B.wno, by rw [(gf _ (Or.inl (by decide))).1]; exact B.lns, B.lnL, fun i hi => by rw [(gf _ (Or.inl (by decide))).1]; exact B.pre i hi, fun i hi => by rw [(gf _ (Or.inl (by decide))).1]; exact B.end_ i hi, fun i hi => by rw [(gf _ (Or.inl (by decide))).1]; exact B.wai i hi, B.le, B.lw, fun i r hi hr => by rw [ga _ W.b_rg.2 nrg]; exact B.reg i r hi hr, fun i hi => by rw [ga _ W.b_pl.2 npl]; exact B.pla i hi, fun p i hp hi => by rw [ga _ W.b_pr.2 npr]; exact B.prd p i hp hi, fun r hr => by rw [ga _ W.b_ti.2 nti]; exact B.tic r hr, by rw [(gf _ (Or.inr (by decide))).1]; exact B.mem⟩
    rw [((g2.2 (x + 13) (by omega)).2.2.2 (fun z => by have := z.1; have := W.bw.1; omega) b).2.1]
    exact B.bq
