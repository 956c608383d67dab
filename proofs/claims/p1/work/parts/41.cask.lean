/-! asking, in the class -/
theorem Cd.frame {P : Nat → Nat → Prop} {h k : Hp} {x : Nat} (C : Cd h x) (A : Fr P h k) (hx : x + 38 < hT h) (n1 : ∀ f, f ≤ 5 → ¬ P f x) (n2 : ∀ f, 128 ≤ f → f ≤ 130 → ¬ P f (x + 3)) (n3 : ∀ f, 192 ≤ f → f ≤ 193 → ¬ P f (x + 5)) (n4 : ∀ f, 256 ≤ f → f ≤ 257 → ¬ P f (x + 8)) (n5 : ¬ P 9999 (x + 12)) (n6 : ∀ u f, u < 8 → 384 ≤ f → f ≤ 385 → ¬ P f (x + 15 + 3 * u)) : Cd k x := by
  have K : ∀ d, d ≤ 38 → hK k (x + d) = hK h (x + d) ∧ hN k (x + d) = hN h (x + d) := fun d hd => ⟨(A.2 (x + d) (by omega)).1, (A.2 (x + d) (by omega)).2.1⟩
  have K0 : hK k x = hK h x := (A.2 x (by omega)).1
  have R : ∀ f a, a ≤ x + 38 → ¬ P f a → hR k f a = hR h f a := fun f a ha q => ((A.2 a (by omega)).2.2.1 f q).2
  refine ⟨by rw [K0]; exact C.k, ⟨by rw [R _ _ (by omega) (n1 _ (by decide))]; exact C.r_sizes, by rw [(K 1 (by decide)).1]; exact C.k_sizes⟩, ⟨by rw [R _ _ (by omega) (n1 _ (by decide))]; exact C.r_kernel, by rw [(K 2 (by decide)).1]; exact C.k_kernel, by rw [(K 2 (by decide)).2]; exact C.n_kernel⟩, ⟨by rw [R _ _ (by omega) (n1 _ (by decide))]; exact C.r_memory, by rw [(K 3 (by decide)).1]; exact C.k_memory⟩, ⟨by rw [R _ _ (by omega) (n2 _ (by decide) (by decide))]; exact C.r_ints, by rw [(K 4 (by decide)).1]; exact C.k_ints, by rw [(K 4 (by decide)).2]; exact C.n_ints⟩, ⟨by rw [R _ _ (by omega) (n2 _ (by decide) (by decide))]; exact C.r_cache, by rw [(K 5 (by decide)).1]; exact C.k_cache⟩, ⟨by rw [R _ _ (by omega) (n3 _ (by decide) (by decide))]; exact C.r_lines, by rw [(K 6 (by decide)).1]; exact C.k_lines, by rw [(K 6 (by decide)).2]; exact C.n_lines⟩, ⟨by rw [R _ _ (by omega) (n3 _ (by decide) (by decide))]; exact C.r_cticks, by rw [(K 7 (by decide)).1]; exact C.k_cticks, by rw [(K 7 (by decide)).2]; exact C.n_cticks⟩, ⟨by rw [R _ _ (by omega) (n2 _ (by decide) (by decide))]; exact C.r_pending, by rw [(K 8 (by decide)).1]; exact C.k_pending⟩, ⟨by rw [R _ _ (by omega) (n4 _ (by decide) (by decide))]; exact C.r_first, by rw [(K 9 (by decide)).1]; exact C.k_first, by rw [(K 9 (by decide)).2]; exact C.n_first⟩, ⟨by rw [R _ _ (by omega) (n4 _ (by decide) (by decide))]; exact C.r_last, by rw [(K 10 (by decide)).1]; exact C.k_last, by rw [(K 10 (by decide)).2]; exact C.n_last⟩, ⟨by rw [R _ _ (by omega) (n1 _ (by decide))]; exact C.r_tally, by rw [(K 11 (by decide)).1]; exact C.k_tally⟩, ⟨by rw [R _ _ (by omega) (n1 _ (by decide))]; exact C.r_units, by rw [(K 12 (by decide)).1]; exact C.k_units, by rw [(K 12 (by decide)).2]; exact C.n_units⟩, ⟨by rw [R _ _ (by omega) (n1 _ (by decide))]; exact C.r_blocks, by rw [(K 13 (by decide)).1]; exact C.k_blocks, by rw [(K 13 (by decide)).2]; exact C.n_blocks⟩, fun u hu => ?_⟩
  obtain ⟨c1, c2, c3, c4, c5, c6, c7, c8⟩ := C.u u hu
  refine ⟨?_, ?_, ?_, ?_, ?_, ?_, ?_, ?_⟩
  · rw [((A.2 (x + 12) (by omega)).2.2.2 n5 u).2.1]; exact c1
  · rw [(A.2 (x + 15 + 3 * u) (by omega)).1]; exact c2
  · rw [R _ _ (by omega) (n6 u _ hu (by decide) (by decide))]; exact c3
  · rw [(A.2 (x + 16 + 3 * u) (by omega)).1]; exact c4
  · rw [(A.2 (x + 16 + 3 * u) (by omega)).2.1]; exact c5
  · rw [R _ _ (by omega) (n6 u _ hu (by decide) (by decide))]; exact c6
  · rw [(A.2 (x + 17 + 3 * u) (by omega)).1]; exact c7
  · rw [(A.2 (x + 17 + 3 * u) (by omega)).2.1]; exact c8
/-- what asking may change, with the cache -/
def PM (x : Nat) (h : Hp) (f a : Nat) : Prop := PA x h f a ∨ (a = x + 5 ∧ (f = 194 ∨ f = 195)) ∨ ((a = x + 6 ∨ a = x + 7) ∧ f = 9999)
theorem PM.tr {x : Nat} {h k l : Hp} (A : Fr (PM x h) h k) (B : Fr (PM x k) k l) : Fr (PM x h) h l := by
  refine A.trans (B.mono fun f a ha q => ?_)
  rcases q with (z | z | z | z) | z | z
  · have := A.1
    exact Or.inl (Or.inl (by omega))
  · by_cases c : a < hT h
    · exact Or.inl (Or.inr (Or.inl (by rw [← (A.2 a c).1]; exact z)))
    · exact Or.inl (Or.inl (by omega))
  · exact Or.inl (Or.inr (Or.inr (Or.inl z)))
  · exact Or.inl (Or.inr (Or.inr (Or.inr z)))
  · exact Or.inr (Or.inl z)
  · exact Or.inr (Or.inr z)
theorem PM.of {x : Nat} {h k : Hp} (A : Fr (PA x h) h k) : Fr (PM x h) h k := A.mono fun f a _ q => Or.inl q
/-- not touched by asking -/
theorem PM_no {x : Nat} {h : Hp} (C : Cd h x) {a f : Nat} (aT : a < hT h) (n1 : ¬ hK h a = 11) (n2 : ¬ hK h a = 5) (n3 : ¬ hK h a = 124) (n4 : ¬ (a = x + 5 ∧ (f = 194 ∨ f = 195))) (n5 : ¬ a = x + 6) (n6 : ¬ a = x + 7) : ¬ PM x h f a := by
  intro z
  rcases z with z | z | ⟨z | z, _⟩
  · exact PA_no C aT n1 n2 n3 z
  · exact n4 z
  · exact n5 z
  · exact n6 z
theorem PM_q {x : Nat} {h k : Hp} (C : Cd h x) (A : Fr (PM x h) h k) {a : Nat} (aT : a < hT h) (n1 : ¬ hK h a = 11) (n2 : ¬ hK h a = 5) (n3 : ¬ hK h a = 124) (n4 : ¬ a = x + 5) (n5 : ¬ a = x + 6) (n6 : ¬ a = x + 7) : hK k a = hK h a ∧ hN k a = hN h a ∧ (∀ f, hI k f a = hI h f a ∧ hR k f a = hR h f a) ∧ ∀ j, hA k a j = hA h a j ∧ hQ k a j = hQ h a j ∧ hL k a j = hL h a j := by
  obtain ⟨a1, a2, a3, a4⟩ := A.2 a aT
  exact ⟨a1, a2, fun f => a3 f (PM_no C aT n1 n2 n3 (fun z => n4 z.1) n5 n6), a4 (PM_no C aT n1 n2 n3 (fun z => n4 z.1) n5 n6)⟩
theorem PM_cd {x : Nat} {h k : Hp} (C : Cd h x) (A : Fr (PM x h) h k) (hx : x + 38 < hT h) : Cd k x := by
  have g : ∀ f a, a ≤ x + 38 → ¬ hK h a = 11 → ¬ (a = x + 8 ∧ (f = 258 ∨ f = 259)) → ¬ ((a = x + 9 ∨ a = x + 10) ∧ f = 9999) → ¬ (a = x + 5 ∧ (f = 194 ∨ f = 195)) → ¬ ((a = x + 6 ∨ a = x + 7) ∧ f = 9999) → ¬ PM x h f a := by
    intro f a ha q1 q2 q3 q4 q5 z
    rcases z with (z | z | z | z) | z | z
    · omega
    · exact q1 z
    · exact q2 z
    · exact q3 z
    · exact q4 z
    · exact q5 z
  refine C.frame A hx (fun f hf => g f _ (by omega) (by rw [C.k]; decide) (by omega) (by omega) (by omega) (by omega)) (fun f h1 h2 => g f _ (by omega) (by rw [C.k_memory]; decide) (by omega) (by omega) (by omega) (by omega)) (fun f h1 h2 => g f _ (by omega) (by rw [C.k_cache]; decide) (by omega) (by omega) (by omega) (by omega)) (fun f h1 h2 => g f _ (by omega) (by rw [C.k_pending]; decide) (by omega) (by omega) (by omega) (by omega)) (g _ _ (by omega) (by rw [C.k_units]; decide) (by omega) (by omega) (by omega) (by omega)) (fun u f hu h1 h2 => g f _ (by omega) (by rw [(C.u u hu).2.1]; decide) (by omega) (by omega) (by omega) (by omega))
/-- a warp's cells and the words, as they are seen while it asks -/
def Wv (h : Hp) (x lo w rg ro : Nat) : Prop := (lo ≤ w ∧ w < hT h) ∧ (lo ≤ rg ∧ rg < hT h) ∧ (lo ≤ ro ∧ ro < hT h)
theorem PM_wp {x lo : Nat} {h k : Hp} (C : Cd h x) (A : Fr (PM x h) h k) (lx : x + 38 < lo) {w rg pl ro pr ti ln : Nat} (W : Wp h w rg pl ro pr ti ln) (V : Wv h x lo w rg ro) (b2 : lo ≤ pl ∧ pl < hT h) (b4 : lo ≤ pr ∧ pr < hT h) (b5 : lo ≤ ti ∧ ti < hT h) : Wp k w rg pl ro pr ti ln := by
  obtain ⟨⟨wk, wl, hl⟩, ⟨r1, k1, n1, m1⟩, ⟨r2, k2, n2, m2⟩, ⟨r3, k3, n3, m3⟩, ⟨r4, k4, n4⟩, ⟨r5, k5, n5⟩, d1, d2, d3, d4, d5, d6, d7, d8, d9, d10⟩ := W
  obtain ⟨v1, v2, v3⟩ := V
  have qw := PM_q C A v1.2 (by rw [wk]; decide) (by rw [wk]; decide) (by rw [wk]; decide) (by omega) (by omega) (by omega)
  have q1 := PM_q C A v2.2 (by rw [k1]; decide) (by rw [k1]; decide) (by rw [k1]; decide) (by omega) (by omega) (by omega)
  have q2 := PM_q C A b2.2 (by rw [k2]; decide) (by rw [k2]; decide) (by rw [k2]; decide) (by omega) (by omega) (by omega)
  have q3 := PM_q C A v3.2 (by rw [k3]; decide) (by rw [k3]; decide) (by rw [k3]; decide) (by omega) (by omega) (by omega)
  have q4 := PM_q C A b4.2 (by rw [k4]; decide) (by rw [k4]; decide) (by rw [k4]; decide) (by omega) (by omega) (by omega)
  have q5 := PM_q C A b5.2 (by rw [k5]; decide) (by rw [k5]; decide) (by rw [k5]; decide) (by omega) (by omega) (by omega)
  unfold Wp
  rw [qw.1, (qw.2.2.1 _).1, (qw.2.2.1 _).2, (qw.2.2.1 _).2, (qw.2.2.1 _).2, (qw.2.2.1 _).2, (qw.2.2.1 _).2, q1.1, q1.2.1, q2.1, q2.2.1, q3.1, q3.2.1, q4.1, q4.2.1, q5.1, q5.2.1]
  exact ⟨⟨wk, wl, hl⟩, ⟨r1, k1, n1, m1⟩, ⟨r2, k2, n2, m2⟩, ⟨r3, k3, n3, m3⟩, ⟨r4, k4, n4⟩, ⟨r5, k5, n5⟩, d1, d2, d3, d4, d5, d6, d7, d8, d9, d10⟩
theorem sh3 {k : Nat} (h : k < 4096) : nI k >>> ((3 : Int32) &&& 31) = nI (k / 8) := pk_shrN (by omega) _ 3 (by decide)
theorem c_Memory_lanesOf {F : Nat} {h : Hp} {w rg pl ro pr ti ln : Nat} (W : Wp h w rg pl ro pr ti ln) (hF : 40000 ≤ F) (left : Int32) (K : Nat → Nat) (hK2 : ∀ i, i < ln → bt left i = true → hA h ro i = nI (K i) ∧ K i < 4096) (l : Nat) (ll : l < 512) : f_Memory_lanesOf F (some w) left (nI l) h = some (mkM (fun i => bt left i && decide (K i / 8 = l)) ln, h) := by
  obtain ⟨⟨wk, wl, hl⟩, ⟨r1, k1, n1, m1⟩, ⟨r2, k2, n2, m2⟩, ⟨r3, k3, n3, m3⟩, ⟨r4, k4, n4⟩, ⟨r5, k5, n5⟩, d1, d2, d3, d4, d5, d6, d7, d8, d9, d10⟩ := W
  have st := iterF (fun n i => b_Memory_lanesOf_5 F n (some w) left (nI l) (mkM (fun i => bt left i && decide (K i / 8 = l)) i) (nI i) h) ln (fun i n hi => by
    have c : ¬ nI ln ≤ nI i := nI_ge hi (by omega)
    have em : mkM (fun i => bt left i && decide (K i / 8 = l)) (i + 1) = if (bt left i && decide (K i / 8 = l)) = true then mkM (fun i => bt left i && decide (K i / 8 = l)) i ||| ((1 : Int32) <<< (nI i &&& 31)) else mkM (fun i => bt left i && decide (K i / 8 = l)) i := rfl
    rw [b_Memory_lanesOf_5]
    dsimp only
    rw [rq_some wk, wl, if_neg c, c_in left (show i < 32 by omega), cl_some, bI_ite, em]
    by_cases q : bt left i = true
    · obtain ⟨e1, e2⟩ := hK2 i hi q
      rw [if_pos q, gd_t wk, rq_k r3 k3, ixn (by omega) (by omega), e1, sh3 e2, nI_1, q, Bool.true_and]
      by_cases z : K i / 8 = l
      · rw [if_pos (by rw [z]), if_pos (decide_eq_true z)]
      · rw [if_neg (fun y => z ((nI_eq (by omega) (by omega)).mp y)), if_neg (by rw [decide_eq_false z]; decide)]
    · have q0 : bt left i = false := by simpa using q
      rw [if_neg q, nI_1, q0, Bool.false_and, if_neg (by decide)]) (F := F) (by omega)
  have cL : nI ln ≤ nI ln := nI_le (Nat.le_refl _) (by omega)
  rw [nI_0, show mkM (fun i => bt left i && decide (K i / 8 = l)) 0 = 0 from rfl] at st
  rw [f_Memory_lanesOf, st, b_Memory_lanesOf_5]
  dsimp only
  rw [rq_some wk, wl, if_pos cL]
/-- what the cache may change -/
def PCh (x f a : Nat) : Prop := (a = x + 5 ∧ (f = 194 ∨ f = 195)) ∨ ((a = x + 6 ∨ a = x + 7) ∧ f = 9999)
theorem PM.ch {x : Nat} {h k : Hp} (A : Fr (PCh x) h k) : Fr (PM x h) h k := A.mono fun f a _ q => Or.inr q
/-- the class's cache -/
def CaIs (h : Hp) (x : Nat) (S : Cs) : Prop := (∀ p, p < 32 → hA h (x + 6) p = S.ln p) ∧ (∀ g, g < 8 → hA h (x + 7) g = S.tk g) ∧ hI h 194 (x + 5) = S.hi ∧ hI h 195 (x + 5) = S.mi
theorem c_Cache_fetch {F : Nat} {h : Hp} {x L ga : Nat} {c : Int32} {S : Cs} (C : Cd h x) (I : CaIs h x S) (lL : L < 512) (g0 : 0 < ga) (g8 : ga ≤ 8) : ∃ k, f_Cache_fetch F (x + 5) (nI L) (nI ga) c h = some (fDn ga c L S, k) ∧ CaIs k x (fNx ga c L S) ∧ Fr (PCh x) h k ∧ hT k = hT h ∧ hU k = hU h := by
  obtain ⟨p1, p2⟩ := fPl_lt (L := L) g0 g8
  obtain ⟨i1, i2, i3, i4⟩ := I
  have ng : ¬ nI ga = 0 := nI_ne0 g0 (by omega)
  have er : nI L - nI L / nI ga * nI ga = nI (L % ga) := pk_rem (by omega) g0 (by omega)
  have ed2 : nI L / nI ga = nI (L / ga) := pk_div (by omega) g0 (by omega)
  have l5 : L / ga < 512 := by
    have := Nat.div_le_self L ga
    omega
  have er2 : nI (L / ga) - nI (L / ga) / 4 * 4 = nI (L / ga % 4) := pk_rem (by omega) (by decide) (by decide)
  have efp : nI (L % ga) * 4 + nI (L / ga % 4) = nI (fPl ga L) := by
    rw [show nI (L % ga) * 4 = nI (L % ga * 4) from pk_mul _ 4, nI_add]
    congr 1
    unfold fPl
    omega
  have efs : (if c < S.tk (L % ga) then S.tk (L % ga) else c) = fSt ga c L S := by
    unfold fSt
    by_cases q : S.tk (L % ga) ≤ c
    · rw [if_pos q, if_neg (Int32.not_lt.mpr q)]
    · rw [if_neg q, if_pos (Int32.not_le.mp q)]
  have pm1 : ∀ f, f = 194 ∨ f = 195 → PCh x f (x + 5) := fun f q => Or.inl ⟨rfl, q⟩
  have pm2 : PCh x 9999 (x + 6) := Or.inr ⟨Or.inl rfl, rfl⟩
  have pm3 : PCh x 9999 (x + 7) := Or.inr ⟨Or.inr rfl, rfl⟩
  have start : f_Cache_fetch F (x + 5) (nI L) (nI ga) c h = if S.ln (fPl ga L) = nI L then some (fSt ga c L S + 4, sA (sI h 194 (x + 5) (S.hi + 1)) (x + 7) (L % ga) (fSt ga c L S + 1)) else some (fSt ga c L S + 12, sA (sA (sI h 195 (x + 5) (S.mi + 1)) (x + 6) (fPl ga L) (nI L)) (x + 7) (L % ga) (fSt ga c L S + 5)) := by
    rw [f_Cache_fetch, if_neg (nI_pos (by omega)), if_neg (show ¬ nI ga < (1 : Int32) from nI_nlt (b := 1) g0 (by omega)), if_pos (show nI ga ≤ (8 : Int32) from nI_le (b := 8) g8 (by decide)), gd_t ng, gd_t ng, gd_t (by decide), gd_t C.k_cache, rq_k C.r_cticks C.k_cticks, er, C.n_cticks, ixn p2 (by decide), rq_k C.r_lines C.k_lines, ed2, er2, efp, C.n_lines, ixn p1 (by decide), i1 _ p1, i2 _ p2, efs]
    by_cases q : S.ln (fPl ga L) = nI L
    · rw [if_pos q, if_pos q, pw_e, qN_sI, C.n_cticks, ixn p2 (by decide), pw_e, i3]
    · rw [if_neg q, if_neg q, pw_e, qN_sI, C.n_lines, ixn p1 (by decide), pw_e, qN_sA, qN_sI, C.n_cticks, ixn p2 (by decide), pw_e, i4]
  rw [start]
  by_cases q : S.ln (fPl ga L) = nI L
  · have qh : fHt ga L S = true := decide_eq_true q
    rw [if_pos q]
    refine ⟨_, by unfold fDn; rw [qh]; rfl, ⟨fun p hp => ?_, fun g hg => ?_, ?_, ?_⟩, ((Fr.refl h).cI (pm1 _ (Or.inl rfl))).cA pm3, by rw [qT_sA, qT_sI], by rw [qU_sA, qU_sI]⟩
    · show _ = if p = fPl ga L then nI L else S.ln p
      rw [qA_sA, if_neg (by omega), qA_sI, i1 p hp]
      by_cases z : p = fPl ga L
      · rw [if_pos z, z, q]
      · rw [if_neg z]
    · show _ = if g = L % ga then fSt ga c L S + (if fHt ga L S = true then 1 else 5) else S.tk g
      rw [qA_sA, qA_sI, i2 g hg, qh]
      by_cases z : g = L % ga
      · rw [if_pos z, if_pos ⟨rfl, z⟩, if_pos rfl]
      · rw [if_neg z, if_neg (fun y => z y.2)]
    · show _ = S.hi + (if fHt ga L S = true then 1 else 0)
      rw [qI_sA, qI_sI, if_pos ⟨rfl, rfl⟩, qh, if_pos rfl]
    · show _ = S.mi + (if fHt ga L S = true then 0 else 1)
      rw [qI_sA, qI_sI, if_neg (by omega), i4, qh, if_pos rfl]
      exact (Int32.add_zero _).symm
  · have qh : fHt ga L S = false := decide_eq_false q
    rw [if_neg q]
    refine ⟨_, by unfold fDn; rw [qh]; rfl, ⟨fun p hp => ?_, fun g hg => ?_, ?_, ?_⟩, (((Fr.refl h).cI (pm1 _ (Or.inr rfl))).cA pm2).cA pm3, by rw [qT_sA, qT_sA, qT_sI], by rw [qU_sA, qU_sA, qU_sI]⟩
    · show _ = if p = fPl ga L then nI L else S.ln p
      rw [qA_sA, if_neg (by omega), qA_sA, qA_sI, i1 p hp]
      by_cases z : p = fPl ga L
      · rw [if_pos z, if_pos ⟨rfl, z⟩]
      · rw [if_neg z, if_neg (fun y => z y.2)]
    · show _ = if g = L % ga then fSt ga c L S + (if fHt ga L S = true then 1 else 5) else S.tk g
      rw [qA_sA, qA_sA, qA_sI, qh]
      by_cases z : g = L % ga
      · rw [if_pos z, if_pos ⟨rfl, z⟩, if_neg (by decide)]
      · rw [if_neg z, if_neg (fun y => z y.2), if_neg (by omega), i2 g hg]
    · show _ = S.hi + (if fHt ga L S = true then 1 else 0)
      rw [qI_sA, qI_sA, qI_sI, if_neg (by omega), i3, qh, if_neg (by decide)]
      exact (Int32.add_zero _).symm
    · show _ = S.mi + (if fHt ga L S = true then 0 else 1)
      rw [qI_sA, qI_sA, qI_sI, if_pos ⟨rfl, rfl⟩, qh, if_neg (by decide)]
theorem PCh_no {x f a : Nat} (n1 : ¬ (a = x + 5 ∧ (f = 194 ∨ f = 195))) (n2 : ¬ ((a = x + 6 ∨ a = x + 7) ∧ f = 9999)) : ¬ PCh x f a := fun z => z.elim n1 n2
theorem Rws.ch {h k : Hp} {x lo : Nat} {tg : Nat → Nat} {Z : RowT} (R : Rws h x lo tg Z) (C : Cd h x) (A : Fr (PCh x) h k) (hx : x + 38 < hT h) (lx : x + 38 < lo) : Rws k x lo tg Z := by
  have hT1 := A.1
  have sQ2 : ∀ a j, a < hT h → ¬ a = x + 6 → ¬ a = x + 7 → hQ k a j = hQ h a j := fun a j ha z1 z2 => ((A.2 a ha).2.2.2 (PCh_no (by omega) (by omega)) j).2.1
  refine R.same (fun r hr => ⟨sQ2 _ _ (by omega) (by omega) (by omega), sQ2 _ _ (by omega) (by omega) (by omega)⟩) (fun r hr q hq => ?_) (fun u j hu hj => sQ2 _ _ (by omega) (by omega) (by omega)) (fun j => sQ2 _ _ (by omega) (by omega) (by omega)) (fun wd w1 w2 => ?_)
  · obtain ⟨_, t2, t3⟩ := R.tgr r hr q hq
    exact ⟨(A.2 _ t3).1, rfl, by omega, fun f _ _ => (A.2 _ t3).2.2.1 f (PCh_no (by omega) (by omega))⟩
  · refine ⟨by omega, by rw [(A.2 _ w1).1]; exact w2, ((A.2 _ w1).2.2.1 _ (PCh_no (by omega) (by omega))).1, ((A.2 _ w1).2.2.1 _ (PCh_no (by omega) (by omega))).1⟩
theorem Spr.ch {h k : Hp} {x lo : Nat} {tg : Nat → Nat} {sp : List Nat} (S : Spr h x lo tg sp) (A : Fr (PCh x) h k) (hx : x + 38 < hT h) (lx : x + 38 < lo) : Spr k x lo tg sp := by
  have hT1 := A.1
  refine ⟨?_, S.nds, fun a ha => ?_⟩
  · rw [((A.2 (x + 8) (by omega)).2.2.1 _ (PCh_no (by omega) (by omega))).2]
    refine S.spr.same fun a ha => ?_
    obtain ⟨_, t2, t3⟩ := S.tgs a ha
    exact ⟨(A.2 _ t3).1, ((A.2 _ t3).2.2.1 _ (PCh_no (by omega) (by omega))).2⟩
  · obtain ⟨t1, t2, t3⟩ := S.tgs a ha
    exact ⟨t1, t2, by omega⟩
/-- cells made while n are asked for -/
def Ldg (h : Hp) (sp : List Nat) (n : Nat) (k : Hp) (sp2 : List Nat) : Prop := ∃ c, hT k = hT h + c ∧ hU k = hU h + 9 * c ∧ sp2.length + n = sp.length + c ∧ (¬ c = 0 → sp2.length = 0)
theorem Ldg.tr {h k l : Hp} {s1 s2 s3 : List Nat} {n1 n2 : Nat} (A : Ldg h s1 n1 k s2) (B : Ldg k s2 n2 l s3) : Ldg h s1 (n1 + n2) l s3 := by
  obtain ⟨c, a1, a2, a3, a4⟩ := A
  obtain ⟨e, b1, b2, b3, b4⟩ := B
  refine ⟨c + e, by omega, by omega, by omega, fun z => ?_⟩
  by_cases q : e = 0
  · have := a4 (by omega)
    omega
  · exact b4 q
theorem Ldg.refl (h : Hp) (sp : List Nat) : Ldg h sp 0 h sp := ⟨0, by omega, by omega, by omega, fun z => absurd rfl z⟩
