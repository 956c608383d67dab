/-! a cycle -/
theorem La.keep {hc H kc kr : Hp} {x m nb th nx ln sl : Nat} (A : La hc H x m nb th nx ln sl) (K : LaK hc H kc kr x m) : La kc kr x m nb th nx ln sl := by
  obtain ⟨a1, a2, a3, a4, a5, a6, a7, a8, a9, a10⟩ := A
  obtain ⟨k1, k2, k3, _⟩ := K
  refine ⟨by rw [k1 _ (by omega) (by omega)]; exact a1, by rw [k2 _ (by omega) (by omega)]; exact a2, by rw [k1 _ (by omega) (by omega)]; exact a3, by rw [k2 _ (by omega) (by omega)]; exact a4, by rw [k1 _ (by omega) (by omega)]; exact a5, by rw [k2 _ (by omega) (by omega)]; exact a6, a7, a8, a9, fun s b hs hb e => ?_⟩
  rcases k3 s hs with z | z
  · exact a10 s b hs hb (by rw [← z]; exact e)
  · rw [z] at e; exact absurd e.symm (nI_m1 (by omega))
/-- where a cycle stands: the units -/
def UnR (o : Nat → Nat) (hc H kc kr : Hp) (x m lo ln sl nn bk ga sz c G U0 nC nb th nx : Nat) : Prop := (∃ Ta, Sm o kc kr x m lo ln sl nn bk ga sz c (c + 1) G U0 nC Ta) ∧ La kc kr x m nb th nx ln sl ∧ RC m lo hc kc ∧ RR m H kr ∧ hI kc 320 (x + 11) = hI hc 320 (x + 11) ∧ ((hI kr 715 m = 1 ∧ hI kr 727 m = 0) ∨ (hI kr 715 m = 4 ∧ ¬ hI kr 727 m = 0)) ∧ ∀ f, f = 726 ∨ f = 704 → hI kr f m = hI H f m
theorem Sm.gm {o : Nat → Nat} {hc H : Hp} {x m lo ln sl nn bk ga sz c pc G G2 U0 nC Ta : Nat} (S : Sm o hc H x m lo ln sl nn bk ga sz c pc G U0 nC Ta) (h : G ≤ G2) : Sm o hc H x m lo ln sl nn bk ga sz c pc G2 U0 nC Ta := ⟨S.M, S.xm, S.ml, S.lh, S.nK, S.X, S.Z, S.T, S.mm, S.ms, S.mz, S.ca, S.gb.mono h, S.lt, S.cy, S.P, S.lg⟩
theorem units_loop {F : Nat} {x m lo ln sl nn bk ga sz c U0 nC nb th nx : Nat} {o : Nat → Nat} (hF : 40000 ≤ F) (n8 : nn ≤ 8) : ∀ (d : Nat) (hc H : Hp) (u G N N2 : Nat), nn = u + d → d < N → d < N2 → (∃ Ta, Sm o hc H x m lo ln sl nn bk ga sz c (c + 1) G U0 nC Ta) → c ≤ G → G + 160 * d < 2 ^ 29 → La hc H x m nb th nx ln sl → ((hI H 715 m = 1 ∧ hI H 727 m = 0) ∨ (hI H 715 m = 4 ∧ ¬ hI H 727 m = 0)) → ∃ kc kr, b_WM_doCycle_32 F N x (nI c) (nI u) hc = b_WM_doCycle_86 F x kc ∧ b_Mod_oneCycle_18 F N2 m (nI u) H = b_Mod_oneCycle_45 F m kr ∧ UnR o hc H kc kr x m lo ln sl nn bk ga sz c (G + 160 * d) U0 nC nb th nx := by
  intro d
  induction d with
  | zero =>
    intro hc H u G N N2 e1 e2 e3 S cG gl LA st
    obtain ⟨N, rfl⟩ : ∃ k, N = k + 1 := ⟨N - 1, by omega⟩
    obtain ⟨N2, rfl⟩ : ∃ k, N2 = k + 1 := ⟨N2 - 1, by omega⟩
    obtain ⟨Ta, S⟩ := S
    have C := S.X.C
    have h66 : hI hc 66 (x + 1) = nI nn := by have := S.T.sz 2 (by omega); rw [this]; exact S.Z.nu
    refine ⟨hc, H, ?_, ?_, ⟨Ta, S⟩, LA, RC.refl _ _ _, RR.refl _ _, rfl, st, fun _ _ => rfl⟩
    · rw [b_WM_doCycle_32]
      dsimp only
      rw [gd_t C.k, rq_k C.r_sizes C.k_sizes, h66, if_pos (by rw [e1]; exact i_le_refl _)]
    · rw [b_Mod_oneCycle_18]
      dsimp only
      rw [gd_t S.M.k, S.Z.nu, if_pos (by rw [e1]; exact i_le_refl _)]
  | succ d ih =>
    intro hc H u G N N2 e1 e2 e3 S cG gl LA st
    obtain ⟨N, rfl⟩ : ∃ k, N = k + 1 := ⟨N - 1, by omega⟩
    obtain ⟨N2, rfl⟩ : ∃ k, N2 = k + 1 := ⟨N2 - 1, by omega⟩
    obtain ⟨Ta, S⟩ := S
    have C := S.X.C
    have h66 : hI hc 66 (x + 1) = nI nn := by have := S.T.sz 2 (by omega); rw [this]; exact S.Z.nu
    have why : hI hc 330 (x + 11) = hI H 727 m := S.T.tr 0 (by omega)
    have hu : u < 8 := by omega
    obtain ⟨cu1, cu2, _⟩ := C.u u hu
    rcases st with ⟨s1, s2⟩ | ⟨s1, s2⟩
    · obtain ⟨kc, kr, k1, k2, Ta2, k3, k4, k5, k6, k7⟩ := unit_st (F := F) hF S cG (by omega) hu
      have st2 : (hI kr 715 m = 1 ∧ hI kr 727 m = 0) ∨ (hI kr 715 m = 4 ∧ ¬ hI kr 727 m = 0) := by
        rcases k7 with ⟨a, b⟩ | z
        · exact Or.inl ⟨by rw [a]; exact s1, by rw [b]; exact s2⟩
        · exact Or.inr z
      obtain ⟨kc2, kr2, r1, r2, r3, r4, r5, r6, r7, r8, r9⟩ := ih kc kr (u + 1) (G + 160) N N2 (by omega) (by omega) (by omega) ⟨Ta2, k3⟩ (by omega) (by omega) (LA.keep k6) st2
      refine ⟨kc2, kr2, ?_, ?_, ?_, r4, k4.trans r5, k5.trans r6, by rw [r7, k6.1 _ (by omega) (by omega)], r8, fun f hf => by rw [r9 f hf, k6.2.2.2 f hf]⟩
      · rw [b_WM_doCycle_32]
        dsimp only
        rw [gd_t C.k, rq_k C.r_sizes C.k_sizes, h66, if_neg (nI_ge (by omega) (by omega)), rq_k C.r_tally C.k_tally, why, s2, if_pos rfl, rq_k C.r_units C.k_units, C.n_units, ixn hu (by decide), rq_k cu1 cu2]
        rcases k1 with ⟨q1, q2⟩ | ⟨w, h1, q1, q2, q3, q4⟩
        · rw [q1, cl_some, nu_none, nI_1, ← q2]; exact r1
        · rw [q1, cl_some, nu_some, gd_t q3.k, rq_k q3.r_units q3.k_units, q3.n_units, ixn hu (by decide), pw_e, (q3.u u hu).1, q4, clv_some, nI_1]; exact r1
      · rw [b_Mod_oneCycle_18]
        dsimp only
        rw [gd_t S.M.k, S.Z.nu, if_neg (nI_ge (by omega) (by omega)), s1, if_pos rfl, k2, clv_some, nI_1]; exact r2
      · obtain ⟨T3, S3⟩ := r3
        exact ⟨T3, S3.gm (by omega)⟩
    · refine ⟨hc, H, ?_, ?_, ⟨Ta, S.gm (by omega)⟩, LA, RC.refl _ _ _, RR.refl _ _, rfl, Or.inr ⟨s1, s2⟩, fun _ _ => rfl⟩
      · rw [b_WM_doCycle_32]
        dsimp only
        rw [gd_t C.k, rq_k C.r_sizes C.k_sizes, h66, if_neg (nI_ge (by omega) (by omega)), rq_k C.r_tally C.k_tally, why, if_neg s2]
      · rw [b_Mod_oneCycle_18]
        dsimp only
        rw [gd_t S.M.k, S.Z.nu, if_neg (nI_ge (by omega) (by omega)), s1, if_neg (by decide)]
/-- what a warp was gathered to does not count -/
def Gh (lo : Nat) (h k : Hp) : Prop := (hT k = hT h ∧ hU k = hU h ∧ hK k = hK h ∧ hN k = hN h ∧ hA k = hA h ∧ hQ k = hQ h ∧ hL k = hL h) ∧ (∀ f a, ¬ (lo ≤ a ∧ hK h a = 9 ∧ 518 ≤ f ∧ f ≤ 521) → hI k f a = hI h f a) ∧ (∀ f a, ¬ (lo ≤ a ∧ hK h a = 9 ∧ f = 520) → hR k f a = hR h f a)
theorem Gh.refl (lo : Nat) (h : Hp) : Gh lo h h := ⟨⟨rfl, rfl, rfl, rfl, rfl, rfl, rfl⟩, fun _ _ _ => rfl, fun _ _ _ => rfl⟩
theorem Gh.symm {lo : Nat} {h k : Hp} (G : Gh lo h k) : Gh lo k h := by
  obtain ⟨⟨a1, a2, a3, a4, a5, a6, a7⟩, a8, a9⟩ := G
  exact ⟨⟨a1.symm, a2.symm, a3.symm, a4.symm, a5.symm, a6.symm, a7.symm⟩, fun f a n => (a8 f a (fun y => n (by rw [a3]; exact y))).symm, fun f a n => (a9 f a (fun y => n (by rw [a3]; exact y))).symm⟩
theorem Gh.trans {lo : Nat} {h k l : Hp} (A : Gh lo h k) (B : Gh lo k l) : Gh lo h l := by
  obtain ⟨⟨a1, a2, a3, a4, a5, a6, a7⟩, a8, a9⟩ := A
  obtain ⟨⟨b1, b2, b3, b4, b5, b6, b7⟩, b8, b9⟩ := B
  exact ⟨⟨b1.trans a1, b2.trans a2, b3.trans a3, b4.trans a4, b5.trans a5, b6.trans a6, b7.trans a7⟩, fun f a n => (b8 f a (fun y => n (by rw [← a3]; exact y))).trans (a8 f a n), fun f a n => (b9 f a (fun y => n (by rw [← a3]; exact y))).trans (a9 f a n)⟩
/-- between cycles -/
def SmB (o : Nat → Nat) (hc H : Hp) (x m lo ln sl nn bk ga sz c al U0 nC : Nat) : Prop := (∃ hg, (∃ Ta, Sm o hg H x m lo ln sl nn bk ga sz c c (1281 * c) U0 nC Ta) ∧ Gh lo hg hc ∧ (rUn H m → hg = hc)) ∧ hI H 726 m = nI al ∧ c ≤ al ∧ al ≤ 20000 ∧ hI hc 320 (x + 11) = hI H 715 m ∧ ((hI H 715 m = 1 ∧ hI H 727 m = 0 ∧ ∃ nb th nx, La hc H x m nb th nx ln sl) ∨ (hI H 715 m = 4 ∧ ¬ hI H 727 m = 0 ∧ ∃ nb th nx, La hc H x m nb th nx ln sl) ∨ ((hI H 715 m = 0 ∨ hI H 715 m = 2 ∨ hI H 715 m = 3) ∧ hI H 745 m = 0))
theorem end_cycle {F : Nat} {o : Nat → Nat} {hc H : Hp} {x m lo ln sl nn bk ga sz c al G U0 nC nb th nx : Nat} (hS : ∃ Ta, Sm o hc H x m lo ln sl nn bk ga sz c (c + 1) G U0 nC Ta) (gl : G ≤ 1281 * (c + 1)) (LA : La hc H x m nb th nx ln sl) (st : (hI H 715 m = 1 ∧ hI H 727 m = 0 ∧ hI hc 320 (x + 11) = 1) ∨ (hI H 715 m = 4 ∧ ¬ hI H 727 m = 0)) (ea : hI H 726 m = nI al) (ca : c ≤ al) (al2 : al < 20000) : ∃ kc kr, b_WM_doCycle_86 F x hc = some kc ∧ b_Mod_oneCycle_45 F m H = some kr ∧ SmB o kc kr x m lo ln sl nn bk ga sz (c + 1) (al + 1) U0 nC ∧ RC m lo hc kc ∧ RR m H kr ∧ hI kr 704 m = hI H 704 m := by
  obtain ⟨Ta, S⟩ := hS
  have X := S.X
  have C := X.C
  have hx := X.hx
  have lx := X.lx
  have T := S.T
  have P0 := S.P
  obtain ⟨L, Z, sp, tg, p1, p2, p3, p4, p5, p6, p7, p8⟩ := P0
  obtain ⟨lg1, lg2, lg3⟩ := S.lg
  have e745 : hI H 745 m = nI L.length := p1.1
  obtain ⟨v, ev⟩ : ∃ v : Int32, v = if hI H 727 m = 0 then (if hI H 725 m = nI nb ∧ L.length = 0 then 2 else hI hc 320 (x + 11)) else (if L.length = 0 then 3 else 4) := ⟨_, rfl⟩
  obtain ⟨kc, ekc⟩ : ∃ kc, kc = sI (sI (sI hc 325 (x + 11) (nI (c + 1))) 326 (x + 11) (nI (al + 1))) 320 (x + 11) v := ⟨_, rfl⟩
  obtain ⟨kr, ekr⟩ : ∃ kr, kr = sI (sI (sI H 719 m (nI (c + 1))) 726 m (nI (al + 1))) 715 m v := ⟨_, rfl⟩
  have z0 : L.length = 0 ↔ nI L.length = 0 := by
    constructor
    · intro h; rw [h]; rfl
    · intro h
      by_cases y : L.length = 0
      · exact y
      · exact absurd h (nI_ne0 (by omega) (by omega))
  have t325 : hI hc 325 (x + 11) = nI c := by rw [T.cy]; exact S.cy
  have t326 : hI hc 326 (x + 11) = nI al := by rw [T.al]; exact ea
  have t330 : hI hc 330 (x + 11) = hI H 727 m := T.tr 0 (by omega)
  have cls : b_WM_doCycle_86 F x hc = some kc := by
    have key : ∀ q : Int32, (q = 0 ↔ ¬ L.length = 0) → f_Tally_endCycle F (x + 11) q hc = some kc := fun q hq => by
      have e326 : hI (sI hc 325 (x + 11) (nI (c + 1))) 326 (x + 11) = nI al := by rw [qI_sI, if_neg (fun z => by cases z.1)]; exact t326
      have gI : ∀ f, ¬ f = 325 → ¬ f = 326 → hI (sI (sI hc 325 (x + 11) (nI (c + 1))) 326 (x + 11) (nI (al + 1))) f (x + 11) = hI hc f (x + 11) := fun f z1 z2 => by rw [qI_sI, if_neg (fun z => z2 z.1), qI_sI, if_neg (fun z => z1 z.1)]
      rw [f_Tally_endCycle, gd_t C.k_tally, pw_e, pw_e, t325, nI_1, e326, nI_1, gI 330 (by omega) (by omega), gI 324 (by omega) (by omega), gI 321 (by omega) (by omega), t330, T.en, LA.1]
      have self : sI (sI (sI hc 325 (x + 11) (nI (c + 1))) 326 (x + 11) (nI (al + 1))) 320 (x + 11) (hI hc 320 (x + 11)) = sI (sI hc 325 (x + 11) (nI (c + 1))) 326 (x + 11) (nI (al + 1)) := by
        have := sI_self (sI (sI hc 325 (x + 11) (nI (c + 1))) 326 (x + 11) (nI (al + 1))) 320 (x + 11)
        rw [qI_sI, if_neg (fun z => by cases z.1), qI_sI, if_neg (fun z => by cases z.1)] at this
        exact this
      by_cases w : hI H 727 m = 0
      · rw [if_pos w]
        rw [if_pos w] at ev
        by_cases e1 : hI H 725 m = nI nb
        · rw [if_pos e1]
          by_cases e2 : L.length = 0
          · rw [if_pos ⟨e1, e2⟩] at ev
            rw [if_neg (fun y => (hq.mp y) e2), pw_e, ekc, ev]
          · rw [if_neg (fun y => e2 y.2)] at ev
            rw [if_pos (hq.mpr e2), ekc, ev, self]
        · rw [if_neg (fun y => e1 y.1)] at ev
          rw [if_neg e1, ekc, ev, self]
      · rw [if_neg w]
        rw [if_neg w] at ev
        by_cases e2 : L.length = 0
        · rw [if_pos e2] at ev
          rw [if_neg (fun y => (hq.mp y) e2), b_Tally_endCycle_37, gd_t (by rw [qK_sI, qK_sI]; exact C.k_tally), pw_e, ekc, ev]
        · rw [if_neg e2] at ev
          rw [if_pos (hq.mpr e2), b_Tally_endCycle_37, gd_t (by rw [qK_sI, qK_sI]; exact C.k_tally), pw_e, ekc, ev]
    rw [b_WM_doCycle_86, gd_t C.k, rq_k C.r_tally C.k_tally, rq_k C.r_memory C.k_memory, rq_k C.r_pending C.k_pending, p5, b_WM_doCycle_108, b_WM_doCycle_108, gd_t C.k_tally, gd_t C.k_tally]
    by_cases e2 : L.length = 0
    · rw [if_pos (z0.mp e2), key 1 ⟨fun y => absurd y (by decide), fun y => absurd e2 y⟩, clv_some]
    · rw [if_neg (fun y => e2 (z0.mpr y)), key 0 ⟨fun _ => e2, fun _ => rfl⟩, clv_some]
  have rcl : b_Mod_oneCycle_45 F m H = some kr := by
    have self : ∀ w, hI H 715 m = w → sI (sI (sI H 719 m (nI (c + 1))) 726 m (nI (al + 1))) 715 m w = sI (sI H 719 m (nI (c + 1))) 726 m (nI (al + 1)) := fun w hw => by
      have := sI_self (sI (sI H 719 m (nI (c + 1))) 726 m (nI (al + 1))) 715 m
      rw [qI_sI, if_neg (fun z => by cases z.1), qI_sI, if_neg (fun z => by cases z.1), hw] at this
      exact this
    have e726 : hI (sI H 719 m (nI (c + 1))) 726 m = nI al := by rw [qI_sI, if_neg (fun z => by cases z.1)]; exact ea
    have gI : ∀ f, ¬ f = 719 → ¬ f = 726 → hI (sI (sI H 719 m (nI (c + 1))) 726 m (nI (al + 1))) f m = hI H f m := fun f z1 z2 => by rw [qI_sI, if_neg (fun z => z2 z.1), qI_sI, if_neg (fun z => z1 z.1)]
    rw [b_Mod_oneCycle_45, gd_t S.M.k, pw_e, pw_e, S.cy, nI_1, e726, nI_1, gI 745 (by omega) (by omega), gI 715 (by omega) (by omega), gI 725 (by omega) (by omega), gI 716 (by omega) (by omega), e745, LA.2.1]
    by_cases e2 : L.length = 0
    · rw [if_pos (by rw [e2]; decide)]
      rcases st with ⟨s1, s2, s3⟩ | ⟨s1, s2⟩
      · rw [s1, if_neg (by decide)]
        rw [if_pos s2] at ev
        by_cases e1 : hI H 725 m = nI nb
        · rw [if_pos ⟨e1, e2⟩] at ev
          rw [if_pos e1, pw_e, ekr, ev]
        · rw [if_neg (fun y => e1 y.1), s3] at ev
          rw [if_neg e1, ekr, ev, self 1 s1]
      · rw [if_neg s2, if_pos e2] at ev
        rw [s1, if_pos rfl, pw_e, ekr, ev]
    · have le : ¬ nI L.length ≤ 0 := nI_nle (by omega) (by omega)
      rw [if_neg le]
      rcases st with ⟨s1, s2, s3⟩ | ⟨s1, s2⟩
      · rw [if_pos s2, if_neg (fun y => e2 y.2), s3] at ev
        rw [ekr, ev, self 1 s1]
      · rw [if_neg s2, if_neg e2] at ev
        rw [ekr, ev, self 4 s1]
  have cI : ∀ f a, ¬ (a = x + 11 ∧ (f = 320 ∨ f = 325 ∨ f = 326)) → hI kc f a = hI hc f a := fun f a z => by rw [ekc, qI_sI, if_neg (by omega), qI_sI, if_neg (by omega), qI_sI, if_neg (by omega)]
  have rI : ∀ f, ¬ f = 715 → ¬ f = 719 → ¬ f = 726 → hI kr f m = hI H f m := fun f z1 z2 z3 => by rw [ekr, qI_sI, if_neg (by omega), qI_sI, if_neg (by omega), qI_sI, if_neg (by omega)]
  have rA : hA kr = hA H := by rw [ekr, qA_sI, qA_sI, qA_sI]
  have FN : Fr (fun f a => a = x + 11 ∧ (f = 320 ∨ f = 325 ∨ f = 326)) hc kc := by
    rw [ekc]
    exact (((Fr.refl hc).cI ⟨rfl, Or.inr (Or.inl rfl)⟩).cI ⟨rfl, Or.inr (Or.inr rfl)⟩).cI ⟨rfl, Or.inl rfl⟩
  have RT : Rf m (fun f => f = 715 ∨ f = 719 ∨ f = 726) (fun _ => False) H kr := by
    rw [ekr]
    exact (((Rf.refl H).cI (Or.inr (Or.inl rfl))).cI (Or.inr (Or.inr rfl))).cI (Or.inl rfl)
  have c325 : hI kc 325 (x + 11) = nI (c + 1) := by rw [ekc, qI_sI, if_neg (fun z => by cases z.1), qI_sI, if_neg (fun z => by cases z.1), qI_sI, if_pos ⟨rfl, rfl⟩]
  have c326 : hI kc 326 (x + 11) = nI (al + 1) := by rw [ekc, qI_sI, if_neg (fun z => by cases z.1), qI_sI, if_pos ⟨rfl, rfl⟩]
  have c320 : hI kc 320 (x + 11) = v := by rw [ekc, qI_sI, if_pos ⟨rfl, rfl⟩]
  have r719 : hI kr 719 m = nI (c + 1) := by rw [ekr, qI_sI, if_neg (fun z => by cases z.1), qI_sI, if_neg (fun z => by cases z.1), qI_sI, if_pos ⟨rfl, rfl⟩]
  have r726 : hI kr 726 m = nI (al + 1) := by rw [ekr, qI_sI, if_neg (fun z => by cases z.1), qI_sI, if_pos ⟨rfl, rfl⟩]
  have r715 : hI kr 715 m = v := by rw [ekr, qI_sI, if_pos ⟨rfl, rfl⟩]
  have hTk : hT kc = hT hc ∧ hU kc = hU hc := by rw [ekc]; exact ⟨rfl, rfl⟩
  have eL : hL kr = hL H := by rw [ekr, qL_sI, qL_sI, qL_sI]
  have X2 := X.fr (kr := kr) (FN.mono (fun f a _ z => Or.inl z.1)) (fun f hf => rI f (by omega) (by omega) (by omega)) (fun a i h1 h2 => by rw [rA]) (fun k _ => by rw [eL])
  have FZ : Fr (PZ x lo hc) hc kc := FN.mono (fun f a _ z => Or.inr (Or.inr (Or.inr (Or.inl z.1))))
  have T2 : Ty kc kr x m := by
    refine ⟨fun j hj => ?_, ?_, by rw [c325, r719], by rw [c326, r726], fun j hj => ?_, fun j hj => ?_, fun t ht => ?_⟩
    · rw [cI _ _ (by omega), rI _ (by omega) (by omega) (by omega)]; exact T.sz j hj
    · rw [cI _ _ (by omega), rI _ (by omega) (by omega) (by omega)]; exact T.en
    · rw [cI _ _ (by omega), rI _ (by omega) (by omega) (by omega)]; exact T.wd j hj
    · rw [cI _ _ (by omega), rI _ (by omega) (by omega) (by omega)]; exact T.tr j hj
    · rw [cI _ _ (by omega), cI _ _ (by omega), cI _ _ (by omega), cI _ _ (by omega), rA]; exact T.un t ht
  have ec : cs0 kr m = cs0 H m := by
    unfold cs0
    rw [rA, rI _ (by omega) (by omega) (by omega), rI _ (by omega) (by omega) (by omega)]
  have P2 : Pn kc kr x m lo sz (c + 1) Ta := S.P.step (fun tg Z2 RZ => PZ.rws RZ C FZ hx lx) (fun tg sp SZ => PZ.spr SZ C FZ hx lx) (fun L2 PL => PL.same (rI _ (by omega) (by omega) (by omega)) (rI _ (by omega) (by omega) (by omega)) (fun a j h1 h2 => by rw [rA])) (cI _ _ (by omega)) (fun r Q => Q.same (rI _ (by omega) (by omega) (by omega)) (rI _ (by omega) (by omega) (by omega)) (by rw [rA]) (by rw [rA]) (by rw [rA]) (by rw [rA]))
  have Zz := S.Z
  have S2 : Sm o kc kr x m lo ln sl nn bk ga sz (c + 1) (c + 1) (1281 * (c + 1)) U0 nC Ta := by
    refine ⟨RT.md S.M, S.xm, S.ml, by rw [hTk.1]; exact S.lh, fun a h1 h2 => by rw [(FN.2 a (by have := S.lh; omega)).1]; exact S.nK a h1 h2, X2, ⟨by rw [rI _ (by omega) (by omega) (by omega)]; exact Zz.ln, by rw [rI _ (by omega) (by omega) (by omega)]; exact Zz.sl, by rw [rI _ (by omega) (by omega) (by omega)]; exact Zz.nu, by rw [rI _ (by omega) (by omega) (by omega)]; exact Zz.bk, by rw [rI _ (by omega) (by omega) (by omega)]; exact Zz.ga, by rw [rI _ (by omega) (by omega) (by omega)]; exact Zz.sz, Zz.lp, Zz.s1, Zz.u1, Zz.bp, Zz.g1, Zz.i1⟩, T2, fun p hp => ?_, by rw [cI _ _ (by omega)]; exact S.ms, fun p h1 h2 => by rw [rA]; exact S.mz p h1 h2, by rw [ec]; exact PZ.ca S.ca FZ hx lx, by rw [ec]; exact S.gb.mono gl, fun u hu => by rw [rA]; exact S.lt u hu, r719, P2, ?_⟩
    · rw [((FN.2 (x + 4) (by omega)).2.2.2 (fun y => by omega) p).1, rA]; exact S.mm p hp
    · have e := PT.fr X.S FN hx (fun y => by omega) (fun u _ y => by omega) (fun a h1 _ _ y => by omega)
      exact ⟨by rw [hTk.1, e]; exact lg1, by rw [hTk.1, hTk.2]; exact lg2, lg3⟩
  have LA2 : La kc kr x m nb th nx ln sl := by
    obtain ⟨a1, a2, a3, a4, a5, a6, a7, a8, a9, a10⟩ := LA
    exact ⟨by rw [cI _ _ (by omega)]; exact a1, by rw [rI _ (by omega) (by omega) (by omega)]; exact a2, by rw [cI _ _ (by omega)]; exact a3, by rw [rI _ (by omega) (by omega) (by omega)]; exact a4, by rw [cI _ _ (by omega)]; exact a5, by rw [rI _ (by omega) (by omega) (by omega)]; exact a6, a7, a8, a9, fun s b hs hb e => a10 s b hs hb (by rw [rA] at e; exact e)⟩
  refine ⟨kc, kr, cls, rcl, ⟨⟨kc, ⟨Ta, S2⟩, Gh.refl _ _, fun _ => rfl⟩, r726, by omega, by omega, by rw [c320, r715], ?_⟩, RC.of FN S.lh (fun f a h1 h2 y => by have := S.xm; omega), RR.of RT (fun a z => z.elim), rI 704 (by omega) (by omega) (by omega)⟩
  rw [r715, rI 727 (by omega) (by omega) (by omega), rI 745 (by omega) (by omega) (by omega), e745]
  rcases st with ⟨s1, s2, s3⟩ | ⟨s1, s2⟩
  · rw [if_pos s2] at ev
    by_cases e1 : hI H 725 m = nI nb ∧ L.length = 0
    · rw [if_pos e1] at ev
      exact Or.inr (Or.inr ⟨Or.inr (Or.inl ev), by rw [e1.2]; rfl⟩)
    · rw [if_neg e1, s3] at ev
      exact Or.inl ⟨ev, s2, nb, th, nx, LA2⟩
  · rw [if_neg s2] at ev
    by_cases e2 : L.length = 0
    · rw [if_pos e2] at ev
      exact Or.inr (Or.inr ⟨Or.inr (Or.inr ev), by rw [e2]; rfl⟩)
    · rw [if_neg e2] at ev
      exact Or.inr (Or.inl ⟨ev, s2, nb, th, nx, LA2⟩)
theorem cycle_st {F : Nat} {o : Nat → Nat} {hc H : Hp} {x m lo ln sl nn bk ga sz c al U0 nC : Nat} (hF : 40000 ≤ F) (S : SmB o hc H x m lo ln sl nn bk ga sz c al U0 nC) (un : rUn H m) (al2 : al < 20000) : ∃ o2 kc kr, f_WM_doCycle F x hc = some kc ∧ f_Mod_oneCycle F m H = some kr ∧ SmB o2 kc kr x m lo ln sl nn bk ga sz (c + 1) (al + 1) U0 nC ∧ RC m lo hc kc ∧ RR m H kr ∧ hI kr 704 m = hI H 704 m := by
  obtain ⟨⟨hg, ⟨Ta, S⟩, _, eg⟩, ea, ca, al20, e320, st⟩ := S
  have eg2 := eg un
  rw [eg2] at S
  have n8 := S.Z.u1.2
  have C := S.X.C
  obtain ⟨h1, r1, a1, a2, S1, b1, b2, K1, b3, b4⟩ := pend_st (F := F) hF S (by omega)
  have C1 := S1.X.C
  have e325 : hI hc 325 (x + 11) = nI c := by rw [S.T.cy]; exact S.cy
  have why1 : hI h1 330 (x + 11) = hI r1 727 m := S1.T.tr 0 (by omega)
  have cst : f_WM_doCycle F x hc = if hI r1 727 m = 0 then (clv (f_WM_dispatch F x h1) fun h_27 => b_WM_doCycle_32 F F x (nI c) (0 : Int32) h_27) else b_WM_doCycle_86 F x h1 := by
    rw [f_WM_doCycle, gd_t C.k, rq_k C.r_tally C.k_tally, rq_k C.r_memory C.k_memory, e325, a1, clv_some, gd_t C1.k, rq_k C1.r_tally C1.k_tally, why1]
  have rst : f_Mod_oneCycle F m H = if hI r1 715 m = 1 then (clv (f_Mod_dispatch F m r1) fun h_13 => b_Mod_oneCycle_18 F F m 0 h_13) else b_Mod_oneCycle_18 F F m 0 r1 := by
    rw [f_Mod_oneCycle, gd_t S.M.k, a2, clv_some, gd_t S1.M.k]
    rfl
  rcases st with ⟨s1, s2, nb, th, nx, LA⟩ | ⟨s1, s2, nb, th, nx, LA⟩ | ⟨s1, _⟩
  · have LA1 := LA.keep K1
    obtain ⟨h2, r2, d1, d2, ⟨o2, nx2, S2, LA2⟩, d4, d5, d6, d7, d8, d9⟩ := dispatch_st (F := F) hF S1 LA1
    obtain ⟨h3, r3, u1, u2, u3, u4, u5, u6, u7, u8, u9⟩ := units_loop (F := F) (o := o2) hF n8 nn h2 r2 0 (1281 * c) F F (by omega) (by omega) (by omega) ⟨Ta, S2⟩ (by omega) (by omega) LA2 (Or.inl ⟨by rw [d7, b3]; exact s1, by rw [d8, b4]; exact s2⟩)
    obtain ⟨kc, kr, k1, k2, k3, k4, k5, k6⟩ := end_cycle (F := F) (al := al) u3 (by omega) u4 (by
      rcases u8 with ⟨y1, y2⟩ | y
      · refine Or.inl ⟨y1, y2, ?_⟩
        rw [u7, d6, K1.1 _ (by omega) (by omega), e320]; exact s1
      · exact Or.inr y) (by rw [u9 _ (Or.inl rfl), d9 _ (Or.inl rfl), K1.2.2.2 _ (Or.inl rfl)]; exact ea) ca al2
    refine ⟨o2, kc, kr, ?_, ?_, k3, (b1.trans d4).trans (u5.trans k4), (b2.trans d5).trans (u6.trans k5), by rw [k6, u9 _ (Or.inr rfl), d9 _ (Or.inr rfl), K1.2.2.2 _ (Or.inr rfl)]⟩
    · rw [cst, b4, if_pos s2, d1, clv_some]
      exact u1.trans k1
    · rw [rst, b3, if_pos s1, d2, clv_some]
      exact u2.trans k2
  · have LA1 := LA.keep K1
    obtain ⟨h3, r3, u1, u2, u3, u4, u5, u6, u7, u8, u9⟩ := units_loop (F := F) (o := o) hF n8 nn h1 r1 0 (1281 * c) F F (by omega) (by omega) (by omega) ⟨Ta, S1⟩ (by omega) (by omega) LA1 (Or.inr ⟨by rw [b3]; exact s1, by rw [b4]; exact s2⟩)
    have n18 : ∃ k, F = k + 1 := ⟨F - 1, by omega⟩
    have skip : b_Mod_oneCycle_18 F F m 0 r1 = b_Mod_oneCycle_45 F m r1 := by
      obtain ⟨k, hk⟩ := n18
      have : b_Mod_oneCycle_18 F (k + 1) m 0 r1 = b_Mod_oneCycle_45 F m r1 := by
        rw [b_Mod_oneCycle_18]
        dsimp only
        rw [gd_t S1.M.k, S1.Z.nu, b3, s1, if_neg (show ¬ (4 : Int32) = 1 by decide)]
        split <;> rfl
      rw [← hk] at this
      exact this
    obtain ⟨kc, kr, k1, k2, k3, k4, k5, k6⟩ := end_cycle (F := F) (al := al) ⟨Ta, S1⟩ (by omega) LA1 (Or.inr ⟨by rw [b3]; exact s1, by rw [b4]; exact s2⟩) (by rw [K1.2.2.2 _ (Or.inl rfl)]; exact ea) ca al2
    refine ⟨o, kc, kr, ?_, ?_, k3, b1.trans k4, b2.trans k5, by rw [k6, K1.2.2.2 _ (Or.inr rfl)]⟩
    · rw [cst, b4, if_neg s2]; exact k1
    · rw [rst, b3, s1, if_neg (by decide), skip]; exact k2
  · exfalso
    unfold rUn at un
    rcases un with u | u <;> rw [u] at s1 <;> exact absurd s1 (by decide)
