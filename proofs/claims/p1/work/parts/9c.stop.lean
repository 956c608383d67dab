/-! stop -/
def rwO (q : Rq) : Nat := q.t.toBitVec.toNat % 64
theorem rwO_e (q : Rq) : (q.t &&& 63) = nI (rwO q) := pk_and q.t 6 (by decide)
theorem row_step (n : Nat) (hn : n < 64) : ∀ L : List Rq, (L.filter (fun q => decide (rwO q < n + 1))).length = (L.filter (fun q => decide (rwO q < n))).length + (L.filter (fun q => decide ((q.t &&& 63) = nI n))).length := by
  intro L
  induction L with
  | nil => rfl
  | cons q L ih =>
    have hr : rwO q < 64 := Nat.mod_lt _ (by decide)
    have e : decide ((q.t &&& 63) = nI n) = decide (rwO q = n) := by
      rw [rwO_e]
      by_cases z : rwO q = n
      · rw [z, decide_eq_true rfl, decide_eq_true rfl]
      · rw [decide_eq_false z, decide_eq_false (fun y => z (nI_j (by omega) (by omega) y))]
    rcases Nat.lt_trichotomy (rwO q) n with z | z | z
    · rw [List.filter_cons_of_pos (by exact decide_eq_true (by omega)), List.filter_cons_of_pos (by exact decide_eq_true z), List.filter_cons_of_neg (by rw [e]; simp; omega), List.length_cons, List.length_cons, ih]; omega
    · rw [List.filter_cons_of_pos (by exact decide_eq_true (by omega)), List.filter_cons_of_neg (by simp; omega), List.filter_cons_of_pos (by rw [e]; exact decide_eq_true z), List.length_cons, List.length_cons, ih]; omega
    · rw [List.filter_cons_of_neg (by simp; omega), List.filter_cons_of_neg (by simp; omega), List.filter_cons_of_neg (by rw [e]; simp; omega), ih]
theorem row_sum {Z : RowT} {L : List Rq} (p4 : ∀ r, r < 64 → (Z r).length = (L.filter (fun q => decide ((q.t &&& 63) = nI r))).length) : ∀ n, n ≤ 64 → sumL Z n = (L.filter (fun q => decide (rwO q < n))).length := by
  intro n
  induction n with
  | zero =>
    intro _
    have : L.filter (fun q => decide (rwO q < 0)) = [] := by
      rw [List.filter_eq_nil_iff]
      intro q _
      simp
    rw [this]; rfl
  | succ n ih =>
    intro h
    rw [row_step n (by omega), ← ih (by omega), ← p4 n (by omega)]
    rfl
theorem row_all {Z : RowT} {L : List Rq} (p4 : ∀ r, r < 64 → Eqv ((Z r).map Prod.snd) (L.filter (fun q => decide ((q.t &&& 63) = nI r)))) (p6 : (L.map th).Nodup) (d16 : ∀ r, r ∈ L → r.d < 16) : sumL Z 64 = L.length := by
  rw [row_sum (L := L) (fun r hr => ?_) 64 (by omega)]
  · have : L.filter (fun q => decide (rwO q < 64)) = L := List.filter_eq_self.mpr (fun q _ => decide_eq_true (Nat.mod_lt _ (by decide)))
    rw [this]
  · have E1 : Eqv (L.filter (fun q => decide ((q.t &&& 63) = nI r))) ((Z r).map Prod.snd) := fun p => (p4 r hr p).symm
    have l := (fold_eq _ _ E1 ((List.Sublist.map th List.filter_sublist).nodup p6) (fun r hr => d16 r (List.mem_filter.mp hr).1)).2
    rw [List.length_map] at l
    exact l.symm
/-- what freeAll leaves -/
def RFa (H K : Hp) (m : Nat) : Prop := (hT K = hT H ∧ hU K = hU H ∧ hK K = hK H ∧ hN K = hN H ∧ hR K = hR H ∧ hQ K = hQ H ∧ hL K = hL H) ∧ (∀ f a, ¬ (a = m ∧ (f = 704 ∨ f = 715 ∨ f = 745 ∨ f = 746)) → hI K f a = hI H f a) ∧ hI K 745 m = 0 ∧ hI K 715 m = 0 ∧ (∀ t, t < 128 → hA K (m + 9) t = -1) ∧ (∀ a j, ¬ a = m + 9 → hA K a j = hA H a j)
theorem rFa (H : Hp) (m : Nat) : RFa H (rFreeAll (sI (sI H 704 m 0) 715 m 0) m) m := by
  unfold rFreeAll
  refine ⟨⟨rfl, rfl, rfl, rfl, rfl, rfl, rfl⟩, fun f a n => ?_, ?_, ?_, fun t ht => ?_, fun a j n => ?_⟩
  · rw [qI_sI, if_neg (fun y => n ⟨y.2, by omega⟩), qI_sI, if_neg (fun y => n ⟨y.2, by omega⟩), qI_oA, qI_sI, if_neg (fun y => n ⟨y.2, by omega⟩), qI_sI, if_neg (fun y => n ⟨y.2, by omega⟩)]
  · rw [qI_sI, if_neg (fun y => by omega), qI_sI, if_pos ⟨rfl, rfl⟩]
  · rw [qI_sI, if_neg (fun y => by omega), qI_sI, if_neg (fun y => by omega), qI_oA, qI_sI, if_pos ⟨rfl, rfl⟩]
  · rw [qA_sI, qA_sI, qA_oA, fr_i (by omega) ht]
  · rw [qA_sI, qA_sI, qA_oA, fr_o n, qA_sI, qA_sI]
def PST (x lo : Nat) (h : Hp) (f a : Nat) : Prop := (f = 512 ∧ lo ≤ a ∧ hK h a = 9) ∨ (f = 450 ∧ lo ≤ a ∧ hK h a = 8) ∨ hK h a = 11 ∨ (a = x + 8 ∧ 258 ≤ f ∧ f ≤ 259) ∨ (f = 9999 ∧ (a = x + 9 ∨ a = x + 10)) ∨ (a = x + 11 ∧ f = 320) ∨ (f = 387 ∧ x + 15 ≤ a ∧ a ≤ x + 38)
theorem stop_st {F : Nat} {o : Nat → Nat} {hc H K : Hp} {x m lo ln sl nn bk ga sz c al U0 nC : Nat} (hF : 40000 ≤ F) (SB : SmB o hc H x m lo ln sl nn bk ga sz c al U0 nC) (un : rUn H m) (M2 : Md K m) (R : RFa H K m) : ∃ kc, f_WM_stop F x hc = some (1, kc) ∧ SmB o kc K x m lo ln sl nn bk ga sz c al U0 nC ∧ RC m lo hc kc := by
  have V := SB.vw
  have V0 := V
  obtain ⟨C, T, ca, ms, mm, e259, M, Z, SL, BL, us, hx, lx, Kk, nf, lh, uf⟩ := V0
  have xm := SB.m.2.2
  have ml := SB.m.2.1
  obtain ⟨nK, mz⟩ := SB.nK
  obtain ⟨⟨hg, ⟨Ta, S⟩, gh, eg⟩, s1, s2, s3, s4, s5⟩ := SB
  rw [eg un] at S
  have et : tUn hc (x + 11) := by unfold tUn; rw [s4]; exact un
  obtain ⟨h1, a1, a2, a3, a4, a5, a6, a7, a8⟩ := free_all (F := F) hF V.fs
  have C1 := a2.1
  have hx1 : x + 38 < hT h1 := by omega
  obtain ⟨L, ZZ, sp, tg, p1, p2, p3, p4, p5, p6, p7, p8⟩ := S.P
  have R1 : Rws h1 x lo tg ZZ := p2.fr a3 hx (fun z => by unfold PFR at z; omega) (fun z => by unfold PFR at z; omega) (fun a f h1 h2 _ _ z => by unfold PFR at z; omega) (fun u hu z => by unfold PFR at z; omega) (fun z => by unfold PFR at z; omega) (fun a f h1 h2 _ _ z => by unfold PFR at z; omega)
  have S1 : Spr h1 x lo tg sp := p3.fr a3 hx (fun z => by unfold PFR at z; omega) (fun a f h1 h2 _ _ z => by unfold PFR at z; omega)
  obtain ⟨h2, tg2, sp2, b1, b2, b3, b4, b5, b6, b7, b8⟩ := c_Pending_forget (F := F) hF C1 R1 S1 hx1 lx
  rw [row_all p4 p6 (fun r hr => (p7 r hr).o2.1.2.2.2.2.1)] at b8
  obtain ⟨⟨g1, g2, g3, g4, g5, g6, g7⟩, g8, g9, g10, g11, g12⟩ := R
  have ks := fun a => C.n11 (a := a)
  have k1e : ∀ a, a < hT hc → hK h1 a = hK hc a := fun a ha => (a3.2 a ha).1
  have B : Fr (PST x lo hc) hc (sI h2 320 (x + 11) 0) := by
    refine ((a3.mono (fun f a _ y => ?_)).trans (b2.mono (fun f a ha y => ?_))).cI (Or.inr (Or.inr (Or.inr (Or.inr (Or.inr (Or.inl ⟨rfl, rfl⟩))))))
    · rcases y with y | y | y
      · exact Or.inl y
      · exact Or.inr (Or.inl y)
      · exact Or.inr (Or.inr (Or.inr (Or.inr (Or.inr (Or.inr y)))))
    · rcases y with y | y | y | y
      · exact absurd ha (by omega)
      · exact Or.inr (Or.inr (Or.inl (by rw [← k1e a (by omega)]; exact y)))
      · exact Or.inr (Or.inr (Or.inr (Or.inl ⟨y.1, by omega, by omega⟩)))
      · exact Or.inr (Or.inr (Or.inr (Or.inr (Or.inl ⟨y.2, y.1⟩))))
  have A : Fr (PLL x lo hc) hc (sI h2 320 (x + 11) 0) := B.mono (fun f a _ y => by
    rcases y with y | y | y | y | y | y | y
    · exact Or.inl y
    · exact Or.inr (Or.inl y)
    · exact Or.inr (Or.inr (Or.inl y))
    · exact Or.inr (Or.inr (Or.inr (Or.inl y)))
    · exact Or.inr (Or.inr (Or.inr (Or.inr (Or.inl ⟨y.1, by omega⟩))))
    · exact Or.inr (Or.inr (Or.inr (Or.inr (Or.inr (Or.inr (Or.inr (Or.inr (Or.inl ⟨y.1, by omega, by omega⟩))))))))
    · exact Or.inr (Or.inr (Or.inr (Or.inr (Or.inr (Or.inr (Or.inr (Or.inr (Or.inr ⟨by omega, by omega, y.2.1, y.2.2⟩)))))))))
  have k2e : ∀ a, a < hT hc → hK h2 a = hK hc a := fun a ha => ((b2.2 a (by omega)).1).trans (k1e a ha)
  have cI : ∀ f a, x ≤ a → a ≤ x + 38 → ¬ a = x + 14 → ¬ a = x + 8 → ¬ f = 387 → ¬ f = 320 → ¬ f = 9999 → hI (sI h2 320 (x + 11) 0) f a = hI hc f a := fun f a q1 q2 q3 q4 q5 q6 q7 => by
    have := ks a q1 q2 q3
    exact ((B.2 a (by omega)).2.2.1 f (fun z => by unfold PST at z; omega)).1
  have cA : ∀ a j, x ≤ a → a ≤ x + 38 → ¬ a = x + 14 → ¬ a = x + 9 → ¬ a = x + 10 → hA (sI h2 320 (x + 11) 0) a j = hA hc a j ∧ hQ (sI h2 320 (x + 11) 0) a j = hQ hc a j := fun a j q1 q2 q3 q4 q5 => by
    have := ks a q1 q2 q3
    have w := (B.2 a (by omega)).2.2.2 (fun z => by unfold PST at z; omega) j
    exact ⟨w.1, w.2.1⟩
  have qq : ∀ a j, x ≤ a → a ≤ x + 38 → ¬ a = x + 14 → ¬ a = x + 9 → ¬ a = x + 10 → hQ h2 a j = hQ h1 a j := fun a j q1 q2 q3 q4 q5 => by
    have := C1.n11 q1 q2 q3
    exact ((b2.2 a (by omega)).2.2.2 (fun z => by unfold PA at z; omega) j).2.1
  have f5 : ∀ t w, t < 128 → hQ (sI h2 320 (x + 11) 0) (x + 16 + 3 * (t / 16)) (t % 16) = some w → hR (sI h2 320 (x + 11) 0) 512 w = none := fun t w ht e => by
    rw [qQ_sI, qq _ _ (by omega) (by omega) (by omega) (by omega) (by omega)] at e
    rw [qR_sI]
    rcases a2.2.1 t ht with z | ⟨w2, z1, z2, z3, _⟩
    · rw [e] at z; cases z
    · rw [e] at z1; cases z1
      rw [((b2.2 w z3.2).2.2.1 512 (fun z => by unfold PA at z; omega)).2]
      exact a6 t w ht e
  have f6 : ∀ b bl, b < 64 → hQ (sI h2 320 (x + 11) 0) (x + 13) b = some bl → hR (sI h2 320 (x + 11) 0) 450 bl = none := fun b bl hb e => by
    rw [qQ_sI, qq _ _ (by omega) (by omega) (by omega) (by omega) (by omega)] at e
    rw [qR_sI]
    rcases a2.2.2.1 b hb with z | ⟨bl2, z1, z2, z3, _⟩
    · rw [e] at z; cases z
    · rw [e] at z1; cases z1
      rw [((b2.2 bl z3.2).2.2.1 450 (fun z => by unfold PA at z; omega)).2]
      exact a7 b bl hb e
  have IK : ∀ f, ¬ (f = 704 ∨ f = 715 ∨ f = 745 ∨ f = 746) → hI K f m = hI H f m := fun f n => g8 f m (fun y => n y.2)
  have Z2 : Sz K m ln sl nn bk ga sz := ⟨by rw [IK _ (by omega)]; exact Z.ln, by rw [IK _ (by omega)]; exact Z.sl, by rw [IK _ (by omega)]; exact Z.nu, by rw [IK _ (by omega)]; exact Z.bk, by rw [IK _ (by omega)]; exact Z.ga, by rw [IK _ (by omega)]; exact Z.sz, Z.lp, Z.s1, Z.u1, Z.bp, Z.g1, Z.i1⟩
  have T2 : Ty (sI h2 320 (x + 11) 0) K x m := by
    refine ⟨fun j hj => by rw [cI _ _ (by omega) (by omega) (by omega) (by omega) (by omega) (by omega) (by omega), IK _ (by omega)]; exact T.sz j hj, by rw [cI _ _ (by omega) (by omega) (by omega) (by omega) (by omega) (by omega) (by omega), IK _ (by omega)]; exact T.en, by rw [cI _ _ (by omega) (by omega) (by omega) (by omega) (by omega) (by omega) (by omega), IK _ (by omega)]; exact T.cy, by rw [cI _ _ (by omega) (by omega) (by omega) (by omega) (by omega) (by omega) (by omega), IK _ (by omega)]; exact T.al, fun j hj => by rw [cI _ _ (by omega) (by omega) (by omega) (by omega) (by omega) (by omega) (by omega), IK _ (by omega)]; exact T.wd j hj, fun j hj => by rw [cI _ _ (by omega) (by omega) (by omega) (by omega) (by omega) (by omega) (by omega), IK _ (by omega)]; exact T.tr j hj, fun u hu => ?_⟩
    rw [cI _ _ (by omega) (by omega) (by omega) (by omega) (by omega) (by omega) (by omega), cI _ _ (by omega) (by omega) (by omega) (by omega) (by omega) (by omega) (by omega), cI _ _ (by omega) (by omega) (by omega) (by omega) (by omega) (by omega) (by omega), cI _ _ (by omega) (by omega) (by omega) (by omega) (by omega) (by omega) (by omega), g12 _ _ (by omega), g12 _ _ (by omega), g12 _ _ (by omega), g12 _ _ (by omega)]
    exact T.un u hu
  have ec : cs0 K m = cs0 H m := by
    unfold cs0
    rw [IK _ (by omega), IK _ (by omega), show hA K (m + 3) = hA H (m + 3) from funext fun j => g12 _ _ (by omega), show hA K (m + 4) = hA H (m + 4) from funext fun j => g12 _ _ (by omega)]
  obtain ⟨i1, i2, i3, i4⟩ := ca
  have ca2 : CaIs (sI h2 320 (x + 11) 0) x (cs0 K m) := by
    rw [ec]
    exact ⟨fun p hp => by rw [(cA _ _ (by omega) (by omega) (by omega) (by omega) (by omega)).1]; exact i1 p hp, fun g hg => by rw [(cA _ _ (by omega) (by omega) (by omega) (by omega) (by omega)).1]; exact i2 g hg, by rw [cI _ _ (by omega) (by omega) (by omega) (by omega) (by omega) (by omega) (by omega)]; exact i3, by rw [cI _ _ (by omega) (by omega) (by omega) (by omega) (by omega) (by omega) (by omega)]; exact i4⟩
  have A0 : Fr (fun f a => f = 320 ∧ a = x + 11) h2 (sI h2 320 (x + 11) 0) := (Fr.refl h2).cI ⟨rfl, rfl⟩
  have hx2 : x + 38 < hT h2 := by omega
  have P2 : Pn (sI h2 320 (x + 11) 0) K x m lo sz c Ta := by
    refine ⟨[], fun _ => [], sp2, tg2, ⟨g9, fun k r e => (by cases e), fun r hr => (by cases hr)⟩, b3.fr A0 hx2 (fun z => by omega) (fun z => by omega) (fun a f h1 h2 _ _ z => by omega) (fun u hu z => by omega) (fun z => by omega) (fun a f h1 h2 _ _ z => by omega), b4.fr A0 hx2 (fun z => by omega) (fun a f h1 h2 _ _ z => by omega), fun r hr p => rfl, ?_, List.nodup_nil, fun r hr => (by cases hr), ?_⟩
    · rw [qI_sI, if_neg (fun y => by omega)]; exact b5
    · rw [b8, p8]
      show L.length + sp.length = 0 + (sp.length + L.length)
      omega
  have ept := PT.weak V B (fun z => by have := ks (x + 13) (by omega) (by omega) (by omega); unfold PST at z; omega) (fun u hu z => by have := ks (x + 16 + 3 * u) (by omega) (by omega) (by omega); unfold PST at z; omega) (fun a h1 h2 h3 z => by unfold PST at z; omega)
  have lg2 : Lg (sI h2 320 (x + 11) 0) x lo U0 nC Ta := by
    obtain ⟨l1, l2, l3⟩ := S.lg
    have t1 : hT (sI h2 320 (x + 11) 0) = hT hc := by rw [qT_sI]; omega
    have t2 : hU (sI h2 320 (x + 11) 0) = hU hc := by rw [qU_sI]; omega
    exact ⟨by rw [ept, t1]; exact l1, by rw [t1, t2]; exact l2, l3⟩
  have u7 : ∀ u, u < 8 → hI (sI h2 320 (x + 11) 0) 387 (x + 15 + 3 * u) = nI sl := fun u hu => by
    have := C1.n11 (a := x + 15 + 3 * u) (by omega) (by omega) (by omega)
    rw [qI_sI, if_neg (fun y => by omega), ((b2.2 (x + 15 + 3 * u) (by omega)).2.2.1 387 (fun z => by unfold PA at z; omega)).1]
    exact a8 u hu
  have S2 := V.fresh (c2 := c) (G2 := 1281 * c) nK xm ml A (by rw [qT_sI]; omega) M2 (fun k _ => by rw [g7]) f5 f6 (fun u hu => by rw [cI _ _ (by omega) (by omega) (by omega) (by omega) (by omega) (by omega) (by omega)]; exact us u hu) u7 g11 Z2 T2 (fun p hp => by rw [(cA _ _ (by omega) (by omega) (by omega) (by omega) (by omega)).1, g12 _ _ (by omega)]; exact mm p hp) (by rw [cI _ _ (by omega) (by omega) (by omega) (by omega) (by omega) (by omega) (by omega)]; exact ms) (fun p h1 h2 => by rw [g12 _ _ (by omega)]; exact mz p h1 h2) ca2 (by rw [ec]; exact S.gb) (fun u hu => by rw [g12 _ _ (by omega)]; exact S.lt u hu) (by rw [IK _ (by omega)]; exact S.cy) P2 lg2
  have C2 : Cd h2 x := S2.X.C.same (qK_sI ..).symm (qN_sI ..).symm (fun f a _ => by rw [qR_sI]) (fun j => by rw [qQ_sI])
  refine ⟨sI h2 320 (x + 11) 0, ?_, ⟨⟨_, ⟨Ta, S2⟩, Gh.refl _ _, fun _ => rfl⟩, by rw [IK _ (by omega)]; exact s1, s2, s3, by rw [qI_sI, if_pos ⟨rfl, rfl⟩, g10], Or.inr (Or.inr ⟨Or.inl g10, g9⟩)⟩, RC.of B lh (fun f a h1 h2 z => ?_)⟩
  · rw [f_WM_stop, gd_t C.k, rq_k C.r_tally C.k_tally, c_Tally_underWay C.k_tally, cl_some, bI_ite, if_pos et, gd_t C.k, a1, clv_some, gd_t C1.k, rq_k C1.r_memory C1.k_memory, rq_k C1.r_pending C1.k_pending, b1, clv_some, gd_t C2.k, rq_k C2.r_tally C2.k_tally, pw_e]
  · have := nK a h1 h2
    unfold PST at z
    omega
theorem k_stop {F x m lo U0 : Nat} (hF : 40000 ≤ F) : CallOk (f_WM_stop F x) (f_Mod_stop F m) x m lo U0 := fun nC hc H J => by
  have J0 := J
  obtain ⟨o, ln, sl, nn, bk, ga, sz, c, al, SB⟩ := J0
  obtain ⟨C, T, ca, ms, mm, e259, M, Z, SL, BL, us, hx, lx, Kk, nf, lh, uf⟩ := SB.vw
  have s4 := SB.2.2.2.2.1
  have et : tUn hc (x + 11) ↔ rUn H m := by unfold tUn rUn; rw [s4]
  rw [c_Mod_stop M hF]
  by_cases un : rUn H m
  · have R := rFa H m
    obtain ⟨kc, k1, k2, k3⟩ := stop_st (F := F) hF SB un (M.tsI.tsI.freeAll) R
    rw [k1, if_pos un]
    refine ⟨1, kc, _, rfl, rfl, ⟨o, ln, sl, nn, bk, ga, sz, c, al, k2.nc (by omega)⟩, k3, ?_⟩
    obtain ⟨⟨g1, g2, g3, g4, g5, g6, g7⟩, g8, g9, g10, g11, g12⟩ := R
    exact ⟨⟨g1, g2, g3, g4, g5, g6⟩, fun f a n => g8 f a (fun y => n y.1), fun a j n => g12 a j (fun y => n (by omega)), fun a j n => by rw [g7]⟩
  · rw [if_neg un]
    refine ⟨0, hc, _, ?_, rfl, J.th.nc (by omega), RC.refl _ _ _, RR.th⟩
    rw [f_WM_stop, gd_t C.k, rq_k C.r_tally C.k_tally, c_Tally_underWay C.k_tally, cl_some, bI_ite, if_neg (fun y => un (et.mp y))]
