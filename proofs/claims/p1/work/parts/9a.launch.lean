/-! launch -/
theorem FS.same {o : Nat → Nat} {h k : Hp} {x lo sl : Nat} (S : FS o h x lo sl) (eT : hT k = hT h) (eK : hK k = hK h) (eN : hN k = hN h) (eR : hR k = hR h) (eQ : hQ k = hQ h) (eI : ∀ u f, u < 8 → f = 386 ∨ f = 387 → hI k f (x + 15 + 3 * u) = hI h f (x + 15 + 3 * u)) : FS o k x lo sl := by
  obtain ⟨C, s1, s2, s3, s4, s5, lx, hx⟩ := S
  have eb : bz k = bz h := funext fun wa => funext fun j => by unfold bz; rw [eQ, eR]
  refine ⟨C.same eK eN (fun f a _ => by rw [eR]) (fun j => by rw [eQ]), ?_, ?_, fun u hu => by rw [eI u _ hu (Or.inl rfl)]; exact s3 u hu, fun u hu => by rw [eI u _ hu (Or.inr rfl), eb]; exact s4 u hu, s5, lx, by rw [eT]; exact hx⟩
  · rw [eT, eK, eR, eQ]; exact s1
  · rw [eT, eK, eR, eQ]; exact s2
def PUB (x f a : Nat) : Prop := (386 ≤ f ∧ f ≤ 391 ∧ x + 15 ≤ a ∧ a ≤ x + 38) ∨ (f = 9999 ∧ a = x + 7) ∨ (a = x + 5 ∧ 194 ≤ f ∧ f ≤ 195)
def UnB (k : Hp) (a : Nat) (v : Int32) : Prop := hI k 386 a = v ∧ hI k 387 a = v ∧ hI k 388 a = v - 1 ∧ hI k 389 a = 0 ∧ hI k 390 a = 0 ∧ hI k 391 a = 0
theorem unB (h : Hp) (a : Nat) (v : Int32) : UnB (unBegin h a v) a v := by
  unfold UnB unBegin
  refine ⟨?_, ?_, ?_, ?_, ?_, ?_⟩ <;> simp [qI_sI]
theorem un_fr {x u : Nat} {h0 h : Hp} {v : Int32} (A : Fr (PUB x) h0 h) (hu : u < 8) : Fr (PUB x) h0 (unBegin h (x + 15 + 3 * u) v) := by
  unfold unBegin
  exact (((((A.cI (Or.inl ⟨by omega, by omega, by omega, by omega⟩)).cI (Or.inl ⟨by omega, by omega, by omega, by omega⟩)).cI (Or.inl ⟨by omega, by omega, by omega, by omega⟩)).cI (Or.inl ⟨by omega, by omega, by omega, by omega⟩)).cI (Or.inl ⟨by omega, by omega, by omega, by omega⟩)).cI (Or.inl ⟨by omega, by omega, by omega, by omega⟩)
theorem un_o (h : Hp) (a : Nat) (v : Int32) : hT (unBegin h a v) = hT h ∧ hU (unBegin h a v) = hU h ∧ ∀ f b, ¬ b = a → hI (unBegin h a v) f b = hI h f b := by
  refine ⟨rfl, rfl, fun f b n => ?_⟩
  unfold unBegin
  rw [qI_sI, if_neg (fun y => n y.2), qI_sI, if_neg (fun y => n y.2), qI_sI, if_neg (fun y => n y.2), qI_sI, if_neg (fun y => n y.2), qI_sI, if_neg (fun y => n y.2), qI_sI, if_neg (fun y => n y.2)]
theorem clear_loop {F : Nat} {h0 : Hp} {x : Nat} {v : Int32} (hF : 40000 ≤ F) (C0 : Cd h0 x) (hx : x + 38 < hT h0) (ev : hI h0 65 (x + 1) = v) : ∀ (d i N : Nat) (h : Hp), i + d = 8 → d < N → Fr (PUB x) h0 h → hT h = hT h0 → hU h = hU h0 → (∀ u, u < i → UnB h (x + 15 + 3 * u) v) → ∃ k, b_WM_clearForLaunch_6 F N x (nI i) h = some k ∧ Fr (PUB x) h0 k ∧ hT k = hT h0 ∧ hU k = hU h0 ∧ (∀ u, u < 8 → UnB k (x + 15 + 3 * u) v) ∧ (∀ g, g < 8 → hA k (x + 7) g = 0) ∧ hI k 194 (x + 5) = 0 ∧ hI k 195 (x + 5) = 0 := by
  intro d
  have Cd2 : ∀ h, Fr (PUB x) h0 h → Cd h x := fun h A => C0.frame A hx (fun f _ z => by unfold PUB at z; omega) (fun f _ _ z => by unfold PUB at z; omega) (fun f _ _ z => by unfold PUB at z; omega) (fun f _ _ z => by unfold PUB at z; omega) (fun z => by unfold PUB at z; omega) (fun u f _ _ _ z => by unfold PUB at z; omega)
  induction d with
  | zero =>
    intro i N h e1 e2 A t1 t2 q
    obtain ⟨N, rfl⟩ : ∃ k, N = k + 1 := ⟨N - 1, by omega⟩
    have C := Cd2 h A
    refine ⟨sI (sI (oA h (fr (hA h) (x + 7) 0 8 (fun _ => 0))) 194 (x + 5) 0) 195 (x + 5) 0, ?_, ((A.cf (Or.inr (Or.inl ⟨rfl, rfl⟩))).cI (Or.inr (Or.inr ⟨rfl, by omega, by omega⟩))).cI (Or.inr (Or.inr ⟨rfl, by omega, by omega⟩)), t1, t2, fun u hu => ?_, fun g hg => ?_, ?_, ?_⟩
    · rw [b_WM_clearForLaunch_6]
      dsimp only
      rw [gd_t C.k, rq_k C.r_units C.k_units, C.n_units, if_pos (nI_le (by omega) (by omega)), rq_k C.r_memory C.k_memory, rq_k C.r_cache C.k_cache, c_Cache_begin C.k_cache C.r_cticks C.k_cticks C.n_cticks hF, clv_some]
    · have w := q u (by omega)
      unfold UnB at w ⊢
      simp only [qI_sI, qI_oA]
      simp only [show ¬ x + 15 + 3 * u = x + 5 by omega, and_false, if_false]
      exact w
    · rw [qA_sI, qA_sI, qA_oA, fr_i (by omega) hg]
    · rw [qI_sI, if_neg (fun y => by omega), qI_sI, if_pos ⟨rfl, rfl⟩]
    · rw [qI_sI, if_pos ⟨rfl, rfl⟩]
  | succ d ih =>
    intro i N h e1 e2 A t1 t2 q
    obtain ⟨N, rfl⟩ : ∃ k, N = k + 1 := ⟨N - 1, by omega⟩
    have C := Cd2 h A
    obtain ⟨cu1, cu2, _⟩ := C.u i (by omega)
    have e65 : hI h 65 (x + 1) = v := by
      rw [((A.2 (x + 1) (by omega)).2.2.1 65 (fun z => by unfold PUB at z; omega)).1]; exact ev
    rw [b_WM_clearForLaunch_6]
    dsimp only
    rw [gd_t C.k, rq_k C.r_units C.k_units, C.n_units, if_neg (nI_ge (by omega) (by omega)), ixn (by omega) (by decide), rq_k cu1 cu2, rq_k C.r_sizes C.k_sizes, e65, c_Unit_begin cu2, clv_some, nI_1]
    obtain ⟨o1, o2, o3⟩ := un_o h (x + 15 + 3 * i) v
    refine ih (i + 1) N _ (by omega) (by omega) (un_fr A (by omega)) (o1.trans t1) (o2.trans t2) (fun u hu => ?_)
    by_cases e : u = i
    · rw [e]; exact unB _ _ _
    · have w := q u (by omega)
      unfold UnB at w ⊢
      rw [o3 _ _ (by omega), o3 _ _ (by omega), o3 _ _ (by omega), o3 _ _ (by omega), o3 _ _ (by omega), o3 _ _ (by omega)]
      exact w
theorem clear_st {F : Nat} {o : Nat → Nat} {h0 : Hp} {x lo sl : Nat} {v : Int32} (hF : 40000 ≤ F) (S0 : FS o h0 x lo sl) (ev : hI h0 65 (x + 1) = v) : ∃ k, f_WM_clearForLaunch F x h0 = some k ∧ Fr (fun f a => PFR x lo h0 f a ∨ PUB x f a) h0 k ∧ hT k = hT h0 ∧ hU k = hU h0 ∧ (∀ u, u < 8 → UnB k (x + 15 + 3 * u) v) ∧ (∀ g, g < 8 → hA k (x + 7) g = 0) ∧ hI k 194 (x + 5) = 0 ∧ hI k 195 (x + 5) = 0 ∧ (∀ t w, t < 128 → hQ k (x + 16 + 3 * (t / 16)) (t % 16) = some w → hR k 512 w = none) ∧ (∀ b bl, b < 64 → hQ k (x + 13) b = some bl → hR k 450 bl = none) := by
  obtain ⟨h1, a1, a2, a3, a4, a5, a6, a7, a8⟩ := free_all hF S0
  have lx : x + 38 < lo := S0.2.2.2.2.2.2.1
  have hx : x + 38 < hT h1 := a2.2.2.2.2.2.2.2
  obtain ⟨k, b1, b2, b3, b4, b5, b6, b7, b8⟩ := clear_loop (F := F) (v := v) hF a2.1 hx (by rw [((a3.2 (x + 1) (by omega)).2.2.1 65 (fun z => by unfold PFR at z; omega)).1]; exact ev) 8 0 F h1 (by omega) (by omega) (Fr.refl h1) rfl rfl (fun u hu => by omega)
  have q : ∀ a, ¬ a = x + 7 → a < hT h1 → ∀ j, hQ k a j = hQ h1 a j := fun a n ha j => ((b2.2 a ha).2.2.2 (fun z => by unfold PUB at z; omega) j).2.1
  refine ⟨k, ?_, (a3.mono (fun f a _ y => Or.inl y)).trans (b2.mono (fun f a _ y => Or.inr y)), b3.trans a4, b4.trans a5, b5, b6, b7, b8, fun t w ht e => ?_, fun b bl hb e => ?_⟩
  · rw [f_WM_clearForLaunch, gd_t S0.1.k, a1, clv_some]; exact b1
  · rw [q _ (by omega) (by omega)] at e
    rcases a2.2.1 t ht with z | ⟨w2, z1, z2, z3, _⟩
    · rw [e] at z; cases z
    · rw [e] at z1; cases z1
      rw [((b2.2 w z3.2).2.2.1 512 (fun z => by unfold PUB at z; omega)).2]
      exact a6 t w ht e
  · rw [q _ (by omega) (by omega)] at e
    rcases a2.2.2.1 b hb with z | ⟨bl2, z1, z2, z3, _⟩
    · rw [e] at z; cases z
    · rw [e] at z1; cases z1
      rw [((b2.2 bl z3.2).2.2.1 450 (fun z => by unfold PUB at z; omega)).2]
      exact a7 b bl hb e
theorem Gh.fr {lo : Nat} {hg hc : Hp} (g : Gh lo hg hc) : Fr (fun f a => lo ≤ a ∧ hK hg a = 9 ∧ 518 ≤ f ∧ f ≤ 521) hg hc := by
  obtain ⟨⟨a1, a2, a3, a4, a5, a6, a7⟩, a8, a9⟩ := g
  exact ⟨by rw [a1]; exact Nat.le_refl _, fun a _ => ⟨by rw [a3], by rw [a4], fun f n => ⟨a8 f a n, a9 f a (fun y => n ⟨y.1, y.2.1, by omega, by omega⟩)⟩, fun _ j => ⟨by rw [a5], by rw [a6], by rw [a7]⟩⟩⟩
def PLM (x lo : Nat) (h : Hp) (f a : Nat) : Prop := (f = 512 ∧ lo ≤ a ∧ hK h a = 9) ∨ (f = 450 ∧ lo ≤ a ∧ hK h a = 8) ∨ (f = 9999 ∧ (a = x + 4 ∨ a = x + 6 ∨ a = x + 7)) ∨ (a = x + 1 ∧ 64 ≤ f ∧ f ≤ 69) ∨ (a = x + 3 ∧ f = 131) ∨ (a = x + 5 ∧ 194 ≤ f ∧ f ≤ 195) ∨ (a = x + 11 ∧ 320 ≤ f ∧ f ≤ 333) ∨ (386 ≤ f ∧ f ≤ 391 ∧ x + 15 ≤ a ∧ a ≤ x + 38)
theorem PLM.w {x lo : Nat} {h k : Hp} (A : Fr (PLM x lo h) h k) : Fr (PLL x lo h) h k := A.mono (fun f a _ y => by
  unfold PLM at y
  unfold PLL
  rcases y with y | y | y | y | y | y | y | y
  · exact Or.inl y
  · exact Or.inr (Or.inl y)
  · exact Or.inr (Or.inr (Or.inr (Or.inr (Or.inl ⟨y.1, Or.inr (Or.inr y.2)⟩))))
  · exact Or.inr (Or.inr (Or.inr (Or.inr (Or.inr (Or.inl y)))))
  · exact Or.inr (Or.inr (Or.inr (Or.inr (Or.inr (Or.inr (Or.inl y))))))
  · exact Or.inr (Or.inr (Or.inr (Or.inr (Or.inr (Or.inr (Or.inr (Or.inl y)))))))
  · exact Or.inr (Or.inr (Or.inr (Or.inr (Or.inr (Or.inr (Or.inr (Or.inr (Or.inl y))))))))
  · exact Or.inr (Or.inr (Or.inr (Or.inr (Or.inr (Or.inr (Or.inr (Or.inr (Or.inr y)))))))))
/-- the pending requests, when there is none -/
theorem SmB.pn0 {o : Nat → Nat} {hc kc H K : Hp} {x m lo ln sl nn bk ga sz c al U0 nC sz2 c2 : Nat} (S : SmB o hc H x m lo ln sl nn bk ga sz c al U0 nC) (un : ¬ rUn H m) (A : Fr (PLM x lo hc) hc kc) (e745 : hI K 745 m = 0) (tT : hT kc = hT hc) (tU : hU kc = hU hc) : ∃ Ta, Pn kc K x m lo sz2 c2 Ta ∧ Lg kc x lo U0 nC Ta := by
  have V := S.vw
  obtain ⟨⟨hg, ⟨Ta, S⟩, gh, eg⟩, s1, s2, s3, s4, s5⟩ := S
  have z0 : hI H 745 m = 0 := by
    rcases s5 with ⟨a, _⟩ | ⟨a, _⟩ | ⟨_, z⟩
    · exact absurd (Or.inl a) un
    · exact absurd (Or.inr a) un
    · exact z
  have lg := S.lg
  have hx := S.X.hx
  have lx := S.X.lx
  obtain ⟨L, Z, sp, tg, p1, p2, p3, p4, p5, p6, p7, p8⟩ := S.P
  have L0 : L = [] := by
    have e := p1.1
    rw [z0] at e
    have := lg.2.2
    have l0 : L.length = 0 := (nI_j (b := 0) (a := L.length) (by omega) (by decide) e.symm)
    exact List.length_eq_zero_iff.mp l0
  subst L0
  have g := gh.fr
  have R1 : Rws hc x lo tg Z := p2.fr g hx (fun z => by omega) (fun z => by omega) (fun a f h1 h2 _ _ z => by omega) (fun u hu z => by omega) (fun z => by omega) (fun a f h1 h2 _ _ z => by omega)
  have S1 : Spr hc x lo tg sp := p3.fr g hx (fun z => by omega) (fun a f h1 h2 _ _ z => by omega)
  have eT := gh.1.1
  have eU := gh.1.2.1
  have hx2 : x + 38 < hT hc := by omega
  have e259 : hI hc 259 (x + 8) = hI hg 259 (x + 8) := gh.2.1 _ _ (fun y => by omega)
  have R2 : Rws kc x lo tg Z := R1.fr A hx2 (fun z => by unfold PLM at z; omega) (fun z => by unfold PLM at z; omega) (fun a f h1 h2 _ _ z => by unfold PLM at z; omega) (fun u hu z => by unfold PLM at z; omega) (fun z => by unfold PLM at z; omega) (fun a f h1 h2 _ _ z => by unfold PLM at z; omega)
  have S2 : Spr kc x lo tg sp := S1.fr A hx2 (fun z => by unfold PLM at z; omega) (fun a f h1 h2 _ _ z => by unfold PLM at z; omega)
  have ept : PT kc x = PT hg x := (PT.weak V A (fun z => by unfold PLM at z; omega) (fun u hu z => by unfold PLM at z; omega) (fun a h1 h2 h3 z => by unfold PLM at z; omega)).trans (PT.gh gh)
  refine ⟨Ta, ⟨[], Z, sp, tg, ⟨e745, fun k r e => (by cases e), fun r hr => (by cases hr)⟩, R2, S2, p4, ?_, p6, fun r hr => (by cases hr), p8⟩, ?_⟩
  · rw [((A.2 (x + 8) (by omega)).2.2.1 259 (fun z => by unfold PLM at z; omega)).1, e259]; exact p5
  · obtain ⟨l1, l2, l3⟩ := lg
    exact ⟨by rw [ept]; omega, by omega, l3⟩
theorem ta_o (h : Hp) (a : Nat) (s b t : Int32) : hT (taBegin h a s b t) = hT h ∧ hU (taBegin h a s b t) = hU h ∧ hK (taBegin h a s b t) = hK h ∧ hN (taBegin h a s b t) = hN h ∧ hR (taBegin h a s b t) = hR h ∧ hQ (taBegin h a s b t) = hQ h ∧ (∀ f c, ¬ c = a → hI (taBegin h a s b t) f c = hI h f c) ∧ hI (taBegin h a s b t) 326 a = hI h 326 a := by
  unfold taBegin
  refine ⟨by simp only [qT_sI], by simp only [qU_sI], by simp only [qK_sI], by simp only [qN_sI], by simp only [qR_sI], by simp only [qQ_sI], fun f c n => ?_, ?_⟩
  · rw [qI_sI, if_neg (fun y => n y.2), qI_sI, if_neg (fun y => n y.2), qI_sI, if_neg (fun y => n y.2), qI_sI, if_neg (fun y => n y.2), qI_sI, if_neg (fun y => n y.2), qI_sI, if_neg (fun y => n y.2), qI_sI, if_neg (fun y => n y.2), qI_sI, if_neg (fun y => n y.2), qI_sI, if_neg (fun y => n y.2), qI_sI, if_neg (fun y => n y.2), qI_sI, if_neg (fun y => n y.2), qI_sI, if_neg (fun y => n y.2), qI_sI, if_neg (fun y => n y.2)]
  · simp [qI_sI]
def TaB (k : Hp) (a : Nat) (s b t : Int32) : Prop := hI k 320 a = s ∧ hI k 321 a = b ∧ hI k 322 a = t ∧ hI k 323 a = 0 ∧ hI k 324 a = 0 ∧ hI k 325 a = 0 ∧ hI k 327 a = 0 ∧ hI k 328 a = 0 ∧ hI k 329 a = 0 ∧ hI k 330 a = 0 ∧ hI k 331 a = 0 ∧ hI k 332 a = 0 ∧ hI k 333 a = 0
theorem taB (h : Hp) (a : Nat) (s b t : Int32) : TaB (taBegin h a s b t) a s b t := by
  unfold TaB taBegin
  refine ⟨?_, ?_, ?_, ?_, ?_, ?_, ?_, ?_, ?_, ?_, ?_, ?_, ?_⟩ <;> simp [qI_sI]
theorem ta_fr {x lo : Nat} {h0 h : Hp} {s b t : Int32} (A : Fr (PLM x lo h0) h0 h) : Fr (PLM x lo h0) h0 (taBegin h (x + 11) s b t) := by
  have p : ∀ f, 320 ≤ f → f ≤ 333 → PLM x lo h0 f (x + 11) := fun f h1 h2 => Or.inr (Or.inr (Or.inr (Or.inr (Or.inr (Or.inr (Or.inl ⟨rfl, h1, h2⟩))))))
  unfold taBegin
  exact ((((((((((((A.cI (p _ (by omega) (by omega))).cI (p _ (by omega) (by omega))).cI (p _ (by omega) (by omega))).cI (p _ (by omega) (by omega))).cI (p _ (by omega) (by omega))).cI (p _ (by omega) (by omega))).cI (p _ (by omega) (by omega))).cI (p _ (by omega) (by omega))).cI (p _ (by omega) (by omega))).cI (p _ (by omega) (by omega))).cI (p _ (by omega) (by omega))).cI (p _ (by omega) (by omega))).cI (p _ (by omega) (by omega))
def PXc (x _f a : Nat) : Prop := ¬ a ≤ x + 4 ∧ ¬ a = x + 6
theorem clear_ta {F : Nat} {o : Nat → Nat} {h0 h : Hp} {x lo sl : Nat} {v s b t : Int32} (hF : 40000 ≤ F) (S0 : FS o h x lo sl) (A : Fr (PLM x lo h0) h0 h) (tT : hT h = hT h0) (tU : hU h = hU h0) (ev : hI h 65 (x + 1) = v) : ∃ k, f_WM_clearForLaunch F x (taBegin h (x + 11) s b t) = some k ∧ Fr (PLM x lo h0) h0 k ∧ Fr (PXc x) h k ∧ hT k = hT h0 ∧ hU k = hU h0 ∧ (∀ u, u < 8 → UnB k (x + 15 + 3 * u) v) ∧ (∀ g, g < 8 → hA k (x + 7) g = 0) ∧ hI k 194 (x + 5) = 0 ∧ hI k 195 (x + 5) = 0 ∧ TaB k (x + 11) s b t ∧ hI k 326 (x + 11) = hI h 326 (x + 11) ∧ (∀ t w, t < 128 → hQ k (x + 16 + 3 * (t / 16)) (t % 16) = some w → hR k 512 w = none) ∧ (∀ b bl, b < 64 → hQ k (x + 13) b = some bl → hR k 450 bl = none) := by
  obtain ⟨o1, o2, o3, o4, o5, o6, o7, o8⟩ := ta_o h (x + 11) s b t
  have tb := taB h (x + 11) s b t
  have A1 : Fr (PLM x lo h0) h0 (taBegin h (x + 11) s b t) := ta_fr A
  have Af : Fr (PXc x) h (taBegin h (x + 11) s b t) := by
    have p : ∀ f : Nat, PXc x f (x + 11) := fun f => ⟨by omega, by omega⟩
    unfold taBegin
    exact (((((((((((((Fr.refl h).cI (p _)).cI (p _)).cI (p _)).cI (p _)).cI (p _)).cI (p _)).cI (p _)).cI (p _)).cI (p _)).cI (p _)).cI (p _)).cI (p _)).cI (p _)
  have S1 : FS o (taBegin h (x + 11) s b t) x lo sl := S0.same o1 o3 o4 o5 o6 (fun u f _ _ => o7 _ _ (by omega))
  generalize taBegin h (x + 11) s b t = h1 at o1 o2 o3 o4 o5 o6 o7 o8 tb A1 Af S1
  have lx : x + 38 < lo := S0.2.2.2.2.2.2.1
  have hx : x + 38 < hT h1 := S1.2.2.2.2.2.2.2
  obtain ⟨k, k1, k2, k3, k4, k5, k6, k7, k8, k9, k10⟩ := clear_st (F := F) (v := v) hF S1 (by rw [o7 _ _ (by omega)]; exact ev)
  have cI : ∀ f, hI k f (x + 11) = hI h1 f (x + 11) := fun f => ((k2.2 (x + 11) (by omega)).2.2.1 f (fun z => by unfold PFR PUB at z; omega)).1
  refine ⟨k, k1, A1.trans (k2.mono (fun f a ha y => ?_)), Af.trans (k2.mono (fun f a ha y => by unfold PFR PUB at y; exact ⟨by omega, by omega⟩)), by omega, by omega, k5, k6, k7, k8, ?_, by rw [cI, o8], k9, k10⟩
  · unfold PFR PUB at y
    rw [(A1.2 a (by omega)).1] at y
    unfold PLM
    rcases y with (y | y | y) | y | y | y
    · exact Or.inl y
    · exact Or.inr (Or.inl y)
    · exact Or.inr (Or.inr (Or.inr (Or.inr (Or.inr (Or.inr (Or.inr ⟨by omega, by omega, y.2.1, y.2.2⟩))))))
    · exact Or.inr (Or.inr (Or.inr (Or.inr (Or.inr (Or.inr (Or.inr y))))))
    · exact Or.inr (Or.inr (Or.inl ⟨y.1, Or.inr (Or.inr y.2)⟩))
    · exact Or.inr (Or.inr (Or.inr (Or.inr (Or.inr (Or.inl y)))))
  · unfold TaB at tb ⊢
    rw [cI, cI, cI, cI, cI, cI, cI, cI, cI, cI, cI, cI, cI]
    exact tb
