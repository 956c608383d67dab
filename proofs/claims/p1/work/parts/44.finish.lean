/-! doing what is on its way, in the class -/
theorem aq_none {β : Type} {h : Hp} {K : Nat} {k : Option β} : aq h none K k = k := rfl
theorem aq_some {β : Type} {h : Hp} {a K : Nat} {k : Option β} (e : hK h a = K) : aq h (some a) K k = k := if_pos e
def RqO2 (r : Rq) : Prop := RqOk r ∧ kMem (nI r.o) ∧ ¬ kSh (nI r.o)
theorem c_Ask_leaves {F : Nat} {h : Hp} {a wd o : Nat} {v : Int32} (ka : hK h a = 11) (hw : hR h 643 a = some wd) (kd : hK h wd = 10) (ho : hI h 576 wd = nI o) (km : kMem (nI o)) (ks : ¬ kSh (nI o)) : f_Ask_leaves F a v h = some (lV (nI o) v (hI h 646 a) (hI h 647 a), h) := by
  rw [f_Ask_leaves, gd_t ka, rq_k hw kd, ho, b_Ask_leaves_48, gd_t ka]
  rcases opA (nI o) km ks with z | z | z | z | z | z
  · rw [z]; rfl
  · rw [z]; rfl
  · rw [z]; rfl
  · rw [z]
    show some ((if v < hI h 646 a then hI h 646 a else v), h) = some ((if v ≤ hI h 646 a then hI h 646 a else v), h)
    by_cases c : v < hI h 646 a
    · have : v ≤ hI h 646 a := by
        rw [Int32.le_iff_toInt_le]
        rw [Int32.lt_iff_toInt_lt] at c
        omega
      rw [if_pos c, if_pos this]
    · rw [if_neg c]
      by_cases e : v ≤ hI h 646 a
      · have : v = hI h 646 a := by
          rw [← Int32.toInt_inj]
          rw [Int32.le_iff_toInt_le] at e
          rw [Int32.lt_iff_toInt_lt] at c
          omega
        rw [if_pos e, ← this]
      · rw [if_neg e]
  · rw [z]; rfl
  · rw [z]
    show (if v = hI h 647 a then some (hI h 646 a, h) else some (v, h)) = some ((if v = hI h 647 a then hI h 646 a else v), h)
    by_cases c : v = hI h 647 a
    · rw [if_pos c, if_pos c]
    · rw [if_neg c, if_neg c]
/-- where a request writes, in the class -/
def RqE (h : Hp) (x lo ln sz : Nat) (rgF : Nat → Nat) (r : Rq) : Prop := RqO2 r ∧ r.p < sz ∧ r.i < ln ∧ ∃ w pl ro pr ti, hQ h (x + 16 + 3 * (r.s / 16)) (r.s % 16) = some w ∧ Wp h w (rgF r.s) pl ro pr ti ln ∧ (lo ≤ w ∧ w < hT h) ∧ (lo ≤ rgF r.s ∧ rgF r.s < hT h) ∧ hR h 512 w = hQ h (x + 13) r.b ∧ (pl < hT h ∧ ro < hT h ∧ pr < hT h ∧ ti < hT h)
def pfC (h : Hp) (x rg : Nat) (r : Rq) : Hp := if r.o = 51 then sA h (x + 4) r.p (lV (nI r.o) (hA h (x + 4) r.p) r.y r.w) else sA (sA h (x + 4) r.p (lV (nI r.o) (hA h (x + 4) r.p) r.y r.w)) rg (16 * r.i + r.d) (hA h (x + 4) r.p)
theorem c_Memory_perform {F : Nat} {h : Hp} {x lo ln sz a : Nat} {rgF : Nat → Nat} {r : Rq} (hF : 40000 ≤ F) (C : Cd h x) (hx : x + 38 < hT h) (lx : x + 38 < lo) (hsz : hI h 131 (x + 3) = nI sz) (s4 : sz ≤ 4096) (ka : hK h a = 11) (R : RqC h x a r) (E : RqE h x lo ln sz rgF r) : f_Memory_perform F (x + 3) (some a) h = some (pfC h x (rgF r.s) r) := by
  obtain ⟨⟨ok, km, ks⟩, e1, e2, w, pl, ro, pr, ti, e3, W, e5, e6, e7, e8⟩ := E
  obtain ⟨r1, ⟨w2, r2, r3⟩, ⟨bl, r4, r5⟩, ⟨wd, r6, r7, r8, r9, r10⟩, r11, r12, r13, r14⟩ := R
  have ew : w2 = w := by rw [r3] at e3; injection e3
  subst ew
  have hp4 : r.p < 4096 := by omega
  have hs := c_Memory_has (F := F) C.k_memory C.r_ints C.k_ints (nI r.p)
  rw [hsz, C.n_ints, bI_t ⟨nI_pos (by omega), nI_ge e1 (by omega), nI_ge hp4 (by decide)⟩] at hs
  have le := c_Ask_leaves (F := F) (v := hA h (x + 4) r.p) ka r6 r8 r9 km ks
  rw [f_Memory_perform, rq_some ka, gd_t C.k_memory, r12, hs, cl_some, if_neg (by decide), gd_t C.k_memory, rq_k C.r_ints C.k_ints, gd_t ka, r12, C.n_ints, ixn hp4 (by decide), le, cl_some, gd_t C.k_ints, C.n_ints, ixn hp4 (by decide), pw_e, r13, r14]
  have rk : ∀ v, hK (sA h (x + 4) r.p v) = hK h := fun v => by rw [qK_sA]
  have rr : ∀ v f c, hR (sA h (x + 4) r.p v) f c = hR h f c := fun v f c => by rw [qR_sA]
  have ri : ∀ v f c, hI (sA h (x + 4) r.p v) f c = hI h f c := fun v f c => by rw [qI_sA]
  have W2 : ∀ v, Wp (sA h (x + 4) r.p v) w2 (rgF r.s) pl ro pr ti ln := fun v => W.same (qK_sA ..) (qN_sA ..) (fun f _ _ => by rw [qR_sA]) (by rw [qI_sA])
  have d16 : r.d < 16 := ok.2.2.2.2.1
  rw [gd_t (by rw [rk]; exact ka), f_Ask_tellThread, gd_t (by rw [rk]; exact ka), rq_k (by rw [rr]; exact r6) (by rw [rk]; exact r8), ri, r9]
  unfold pfC
  by_cases c51 : r.o = 51
  · rw [if_pos (show nI r.o = (51 : Int32) from by rw [c51]; rfl), if_pos c51, clv_some]
  · have nI51 : ¬ nI r.o = 51 := fun z => c51 ((nI_eq (a := r.o) (b := 51) (by have := ok.2.2.2.1; omega) (by decide)).mp z)
    rw [if_neg nI51, if_neg c51, rq_k (by rw [rr]; exact r2) (by rw [rk]; exact W.1.1), pw_e, pw_e, rr, rr, e7, r5, r4, if_pos rfl, ri, ri, r11, r10, c_Warp_put (W2 _) hF e2 d16, clv_some, clv_some]
/-- what finishing may change -/
def PF (x : Nat) (bs : Nat → Bool) (rgF : Nat → Nat) (h : Hp) (f a : Nat) : Prop := PA x h f a ∨ (f = 9999 ∧ (a = x + 4 ∨ ∃ s, s < 128 ∧ bs s = true ∧ a = rgF s))
theorem PF.tr {x : Nat} {bs : Nat → Bool} {rgF : Nat → Nat} {h k l : Hp} (A : Fr (PF x bs rgF h) h k) (B : Fr (PF x bs rgF k) k l) : Fr (PF x bs rgF h) h l := by
  refine A.trans (B.mono fun f a ha q => ?_)
  rcases q with (z | z | z | z) | z
  · have := A.1
    exact Or.inl (Or.inl (by omega))
  · by_cases c : a < hT h
    · exact Or.inl (Or.inr (Or.inl (by rw [← (A.2 a c).1]; exact z)))
    · exact Or.inl (Or.inl (by omega))
  · exact Or.inl (Or.inr (Or.inr (Or.inl z)))
  · exact Or.inl (Or.inr (Or.inr (Or.inr z)))
  · exact Or.inr z
theorem PF.of {x : Nat} {bs : Nat → Bool} {rgF : Nat → Nat} {h k : Hp} (A : Fr (PA x h) h k) : Fr (PF x bs rgF h) h k := A.mono fun f a _ q => Or.inl q
/-- cells and fields that finishing leaves -/
theorem PF_q {x : Nat} {bs : Nat → Bool} {rgF : Nat → Nat} {h k : Hp} (C : Cd h x) (A : Fr (PF x bs rgF h) h k) {a : Nat} (aT : a < hT h) (n1 : ¬ hK h a = 11) (n2 : ¬ hK h a = 5) (n3 : ¬ hK h a = 124) : hK k a = hK h a ∧ hN k a = hN h a ∧ (∀ f, ¬ f = 9999 → hI k f a = hI h f a ∧ hR k f a = hR h f a) ∧ (¬ a = x + 4 → (∀ s, s < 128 → bs s = true → ¬ a = rgF s) → ∀ j, hA k a j = hA h a j ∧ hQ k a j = hQ h a j ∧ hL k a j = hL h a j) := by
  obtain ⟨a1, a2, a3, a4⟩ := A.2 a aT
  refine ⟨a1, a2, fun f hf => a3 f (fun z => ?_), fun z1 z2 => a4 (fun z => ?_)⟩
  · rcases z with z | z
    · exact PA_no C aT n1 n2 n3 z
    · exact hf z.1
  · rcases z with z | ⟨_, z | ⟨s, s1, s2, s3⟩⟩
    · exact PA_no C aT n1 n2 n3 z
    · exact z1 z
    · exact z2 s s1 s2 s3
theorem RqE.fr {x lo ln sz : Nat} {bs : Nat → Bool} {rgF : Nat → Nat} {h k : Hp} {r : Rq} (E : RqE h x lo ln sz rgF r) (C : Cd h x) (A : Fr (PF x bs rgF h) h k) (hx : x + 38 < hT h) (lx : x + 38 < lo) (kR : ∀ s, s < 128 → bs s = true → hK h (rgF s) = 100) : RqE k x lo ln sz rgF r := by
  obtain ⟨e0, e1, e2, w, pl, ro, pr, ti, e3, W, e5, e6, e7, e8, e9, e10, e11⟩ := E
  have hT1 := A.1
  have o1 := e0.1.1
  have W0 := W
  obtain ⟨⟨wk, wl, hl⟩, ⟨r1, k1, n1, m1⟩, ⟨r2, k2, n2, m2⟩, ⟨r3, k3, n3, m3⟩, ⟨r4, k4, n4⟩, ⟨r5, k5, n5⟩, dd⟩ := W
  have qw := PF_q C A e5.2 (by rw [wk]; decide) (by rw [wk]; decide) (by rw [wk]; decide)
  have ku := (C.u (r.s / 16) (by omega)).2.2.2.1
  have qs := PF_q C A (show x + 16 + 3 * (r.s / 16) < hT h by omega) (by rw [ku]; decide) (by rw [ku]; decide) (by rw [ku]; decide)
  have qb := PF_q C A (show x + 13 < hT h by omega) (by rw [C.k_blocks]; decide) (by rw [C.k_blocks]; decide) (by rw [C.k_blocks]; decide)
  have kn : ∀ a, a < hT h → hK k a = hK h a ∧ hN k a = hN h a := fun a ha => ⟨(A.2 a ha).1, (A.2 a ha).2.1⟩
  have sS := qs.2.2.2 (by omega) (fun s s1 s2 z => by have := kR s s1 s2; rw [← z, ku] at this; cases this)
  have sB := qb.2.2.2 (by omega) (fun s s1 s2 z => by have := kR s s1 s2; rw [← z, C.k_blocks] at this; cases this)
  refine ⟨e0, e1, e2, w, pl, ro, pr, ti, by rw [(sS _).2.1]; exact e3, ?_, ⟨e5.1, by omega⟩, ⟨e6.1, by omega⟩, by rw [(qw.2.2.1 _ (by decide)).2, (sB _).2.1]; exact e7, by omega, by omega, by omega, by omega⟩
  unfold Wp
  rw [qw.1, (qw.2.2.1 _ (by decide)).1, (qw.2.2.1 _ (by decide)).2, (qw.2.2.1 _ (by decide)).2, (qw.2.2.1 _ (by decide)).2, (qw.2.2.1 _ (by decide)).2, (qw.2.2.1 _ (by decide)).2, (kn _ e6.2).1, (kn _ e6.2).2, (kn _ e8).1, (kn _ e8).2, (kn _ e9).1, (kn _ e9).2, (kn _ e10).1, (kn _ e10).2, (kn _ e11).1, (kn _ e11).2]
  exact W0
/-- memory and registers of the class -/
def MsC (h : Hp) (x ln sz : Nat) (bs : Nat → Bool) (rgF : Nat → Nat) (σ : Ms) : Prop := (∀ p, p < sz → hA h (x + 4) p = σ.1 p) ∧ ∀ s, s < 128 → bs s = true → ∀ j, j < 16 * ln → hA h (rgF s) j = σ.2 (512 * s + j)
theorem pfC_ms {x ln sz : Nat} {bs : Nat → Bool} {rgF : Nat → Nat} {h : Hp} {σ : Ms} {r : Rq} (m0 : MsC h x ln sz bs rgF σ) (hp : r.p < sz) (hs : r.s < 128) (hd : r.d < 16) (hi : r.i < ln) (l32 : ln ≤ 32) (n4 : ∀ s, s < 128 → bs s = true → ¬ rgF s = x + 4) (inj : ∀ s t, s < 128 → t < 128 → bs s = true → bs t = true → rgF s = rgF t → s = t) (hb : bs r.s = true) : MsC (pfC h x (rgF r.s) r) x ln sz bs rgF (pf σ r) := by
  obtain ⟨a1, a2⟩ := m0
  unfold pfC
  by_cases c : r.o = 51
  · rw [if_pos c]
    refine ⟨fun p hp2 => ?_, fun s s1 s2 j hj => ?_⟩
    · show _ = if p = r.p then lV (nI r.o) (σ.1 r.p) r.y r.w else σ.1 p
      rw [qA_sA, a1 _ hp]
      by_cases z : p = r.p
      · rw [if_pos ⟨rfl, z⟩, if_pos z]
      · rw [if_neg (fun y => z y.2), if_neg z, a1 p hp2]
    · show _ = if ¬ r.o = 51 ∧ 512 * s + j = 16 * th r + r.d then σ.1 r.p else σ.2 (512 * s + j)
      rw [if_neg (fun y => y.1 c), qA_sA, if_neg (fun y => n4 s s1 s2 y.1), a2 s s1 s2 j hj]
  · rw [if_neg c]
    refine ⟨fun p hp2 => ?_, fun s s1 s2 j hj => ?_⟩
    · show _ = if p = r.p then lV (nI r.o) (σ.1 r.p) r.y r.w else σ.1 p
      rw [qA_sA, if_neg (fun y => n4 _ hs hb y.1.symm), qA_sA, a1 _ hp]
      by_cases z : p = r.p
      · rw [if_pos ⟨rfl, z⟩, if_pos z]
      · rw [if_neg (fun y => z y.2), if_neg z, a1 p hp2]
    · show _ = if ¬ r.o = 51 ∧ 512 * s + j = 16 * th r + r.d then σ.1 r.p else σ.2 (512 * s + j)
      rw [qA_sA]
      by_cases z : s = r.s ∧ j = 16 * r.i + r.d
      · rw [if_pos ⟨by rw [z.1], z.2⟩, if_pos ⟨c, by unfold th; rw [z.1, z.2]; omega⟩, a1 _ hp]
      · rw [if_neg (fun y => z ⟨inj s r.s s1 hs s2 hb y.1, y.2⟩), if_neg (fun y => z (by have := y.2; unfold th at this; omega)), qA_sA, if_neg (fun y => n4 s s1 s2 y.1), a2 s s1 s2 j hj]
def cut (Z : RowT) (r0 : Nat) (l : List (Nat × Rq)) : RowT := fun r => if r = r0 then l else Z r
theorem l_unlink {F : Nat} {h : Hp} {x lo r0 : Nat} {tg : Nat → Nat} {Z : RowT} {sp : List Nat} {kp rs : List (Nat × Rq)} {q : Nat × Rq} (C : Cd h x) (R : Rws h x lo tg Z) (S : Spr h x lo tg sp) (hx : x + 38 < hT h) (lx : x + 38 < lo) (l64 : r0 < 64) (eZ : Z r0 = kp ++ q :: rs) : ∃ k tg2, f_Pending_unlink F (x + 8) (nI r0) ((kp.map Prod.fst).getLast?) (some q.1) h = some k ∧ Fr (PA x h) h k ∧ Rws k x lo tg2 (cut Z r0 (kp ++ rs)) ∧ Spr k x lo tg2 (q.1 :: sp) ∧ hI k 259 (x + 8) = hI h 259 (x + 8) - 1 ∧ hT k = hT h ∧ hU k = hU h := by
  have qm : q ∈ Z r0 := by rw [eZ]; simp
  have ka : hK h q.1 = 11 := R.k l64 qm
  obtain ⟨tq, lq, qT⟩ := R.tgr r0 l64 q qm
  have ndp := R.ndr r0 l64
  rw [eZ, List.map_append, List.map_cons] at ndp
  obtain ⟨nd1, nd2, nd3⟩ := List.nodup_append.mp ndp
  obtain ⟨nd4, nd5⟩ := List.nodup_cons.mp nd2
  have f0 := R.fst r0 l64
  rw [eZ, List.map_append, List.map_cons] at f0
  obtain ⟨qp, f1, f2, f3, f4⟩ := Lnk_app.mp f0
  have el := R.lst r0 l64
  have k5 := C.k_pending
  have mZ : ∀ c, c ∈ kp → c ∈ Z r0 := fun c hc => by rw [eZ]; exact List.mem_append_left _ hc
  have mR : ∀ c, c ∈ rs → c ∈ Z r0 := fun c hc => by rw [eZ]; exact List.mem_append_right _ (List.mem_cons_of_mem _ hc)
  have nqk : ∀ c, c ∈ kp → ¬ c.1 = q.1 := fun c hc => nd3 c.1 (List.mem_map.mpr ⟨c, hc, rfl⟩) q.1 (List.mem_cons_self ..)
  have nqr : ∀ c, c ∈ rs → ¬ c.1 = q.1 := fun c hc z => nd4 (by rw [← z]; exact List.mem_map.mpr ⟨c, hc, rfl⟩)
  have nqo : ∀ r, r < 64 → ¬ r = r0 → ∀ c, c ∈ Z r → ¬ c.1 = q.1 := fun r hr er c hc z => by
    have t1 := (R.tgr r hr c hc).1
    rw [z, tq] at t1
    exact er t1.symm
  have nqs : ∀ c, c ∈ sp → ¬ c = q.1 := fun c hc z => by
    have t1 := (S.tgs c hc).1
    rw [z, tq] at t1
    omega
  have ku : hK h (x + 8) = 5 := C.k_pending
  /- the rest, from the heap in which the row is without it -/
  have fin : ∀ h1, hT h1 = hT h → hU h1 = hU h → hK h1 = hK h → hN h1 = hN h → hI h1 = hI h → (∀ f c, ¬ f = 640 → hR h1 f c = hR h f c) → (∀ r, r < 64 → ¬ r = r0 → ∀ c, c ∈ Z r → hR h1 640 c.1 = hR h 640 c.1) → (∀ c, c ∈ sp → hR h1 640 c = hR h 640 c) → (∀ c j, ¬ c = x + 9 → hQ h1 c j = hQ h c j) → (∀ r, ¬ r = r0 → hQ h1 (x + 9) r = hQ h (x + 9) r) → Lnk h1 (hQ h1 (x + 9) r0) ((kp ++ rs).map Prod.fst) none → Fr (PA x h) h h1 → ∃ k tg2, b_Pending_unlink_25 F (x + 8) (nI r0) ((kp.map Prod.fst).getLast?) q.1 h1 = some k ∧ Fr (PA x h) h k ∧ Rws k x lo tg2 (cut Z r0 (kp ++ rs)) ∧ Spr k x lo tg2 (q.1 :: sp) ∧ hI k 259 (x + 8) = hI h 259 (x + 8) - 1 ∧ hT k = hT h ∧ hU k = hU h := by
    intro h1 c1 c2 c3 c4 c5 c6 c7 c8 c9 c10 c11 c12
    have r257 : hR h1 257 (x + 8) = some (x + 10) := by rw [c6 _ _ (by decide)]; exact C.r_last
    have el1 : hQ h1 (x + 10) r0 = ((kp ++ q :: rs).map Prod.fst).getLast? := by rw [c9 _ _ (by omega), el, eZ]
    have bk : ∀ z, (kp.map Prod.fst).getLast? = some z → hK h z = 11 := fun z hz => by
      have : z ∈ kp.map Prod.fst := List.mem_of_getLast? hz
      obtain ⟨rq, m1⟩ := mem_fst this
      exact R.k l64 (mZ _ m1)
    /- the last of the row -/
    have lastE : b_Pending_unlink_25 F (x + 8) (nI r0) ((kp.map Prod.fst).getLast?) q.1 h1 = b_Pending_unlink_42 F (x + 8) q.1 (if rs = [] then sQ h1 (x + 10) r0 ((kp.map Prod.fst).getLast?) else h1) := by
      rw [b_Pending_unlink_25, gd_t (by rw [c3]; exact ku), rq_k r257 (by rw [c3]; exact C.k_last), c4, C.n_last, ixn l64 (by decide), pw_e, el1]
      cases rs with
      | nil =>
        have : ((kp ++ [q]).map Prod.fst).getLast? = some q.1 := by rw [List.map_append]; simp
        rw [this, if_pos rfl, if_pos rfl]
        cases eb : (kp.map Prod.fst).getLast? with
        | none => rw [aq_none, ixn l64 (by decide), pw_e]
        | some z => rw [aq_some (by rw [c3]; exact bk z eb), ixn l64 (by decide), pw_e]
      | cons c rs =>
        have : ¬ ((kp ++ q :: c :: rs).map Prod.fst).getLast? = some q.1 := by
          intro z
          rw [List.map_append, List.map_cons] at z
          have z2 : ((c :: rs).map Prod.fst).getLast? = some q.1 := by
            rw [List.getLast?_append] at z
            rw [List.map_cons] at z ⊢
            rw [List.getLast?_cons_cons] at z
            cases e : (c.1 :: rs.map Prod.fst).getLast? with
            | none => simp at e
            | some y => rw [e] at z; exact z
          exact nd4 (List.mem_of_getLast? z2)
        rw [if_neg this, if_neg (by simp)]
    rw [lastE]
    generalize hh2 : (if rs = [] then sQ h1 (x + 10) r0 ((kp.map Prod.fst).getLast?) else h1) = h2
    have hd : h2 = sQ h1 (x + 10) r0 ((kp.map Prod.fst).getLast?) ∨ h2 = h1 := by
      rw [← hh2]
      by_cases e : rs = []
      · exact Or.inl (if_pos e)
      · exact Or.inr (if_neg e)
    have d1 : hT h2 = hT h := by rcases hd with e | e <;> rw [e] <;> first | exact c1 | (rw [qT_sQ]; exact c1)
    have d2 : hU h2 = hU h := by rcases hd with e | e <;> rw [e] <;> first | exact c2 | (rw [qU_sQ]; exact c2)
    have d3 : hK h2 = hK h := by rcases hd with e | e <;> rw [e] <;> first | exact c3 | (rw [qK_sQ]; exact c3)
    have d5 : hI h2 = hI h := by rcases hd with e | e <;> rw [e] <;> first | exact c5 | (rw [qI_sQ]; exact c5)
    have d6 : hR h2 = hR h1 := by rcases hd with e | e <;> rw [e] <;> first | rfl | rw [qR_sQ]
    have d9 : ∀ c j, ¬ (c = x + 10 ∧ j = r0) → hQ h2 c j = hQ h1 c j := fun c j z => by rcases hd with e | e <;> rw [e] <;> first | rfl | rw [qQ_sQ, if_neg z]
    have d11 : hQ h2 (x + 10) r0 = ((kp ++ rs).map Prod.fst).getLast? := by
      rw [← hh2]
      cases rs with
      | nil => rw [if_pos rfl, qQ_sQ, if_pos ⟨rfl, rfl⟩, List.append_nil]
      | cons c rs =>
        rw [if_neg (by simp), el1, List.map_append, List.map_append, List.map_cons, List.map_cons, List.getLast?_append, List.getLast?_append, List.getLast?_cons_cons]
    have d12 : Fr (PA x h) h h2 := by
      rcases hd with e | e
      · rw [e]; exact c12.cQ (Or.inr (Or.inr (Or.inr ⟨Or.inr rfl, rfl⟩)))
      · rw [e]; exact c12
    have nx : ¬ q.1 = x + 8 := by omega
    rw [b_Pending_unlink_42, gd_t (by rw [d3]; exact ku), pw_e, gd_t (by rw [d3]; exact ka), pw_e, pw_e, pw_e]
    have spE : hR h2 258 (x + 8) = hR h 258 (x + 8) := by rw [d6, c6 _ _ (by decide)]
    refine ⟨_, fun c => if c = q.1 then 64 else tg c, rfl, ?_, ⟨fun r hr => ?_, fun r hr => ?_, fun r hr c hc => ?_, fun r hr => ?_, fun r hr c hc => ?_⟩, ⟨?_, ?_, fun c hc => ?_⟩, ?_, ?_, ?_⟩
    · exact ((d12.cR (Or.inr (Or.inl ka))).cR (Or.inr (Or.inr (Or.inl ⟨rfl, Or.inl rfl⟩)))).cI (Or.inr (Or.inr (Or.inl ⟨rfl, Or.inr rfl⟩)))
    · rw [qQ_sI, qQ_sR, qQ_sR, d9 _ _ (by omega)]
      unfold cut
      by_cases er : r = r0
      · subst er
        rw [if_pos rfl]
        refine c11.same fun c hc => ?_
        refine ⟨by rw [qK_sI, qK_sR, qK_sR, d3, c3], ?_⟩
        obtain ⟨rq, m1⟩ := mem_fst hc
        have nq : ¬ c = q.1 := by
          rcases List.mem_append.mp m1 with z | z
          · exact nqk _ z
          · exact nqr _ z
        rw [qR_sI, qR_sR, if_neg (fun z => by cases z.1), qR_sR, if_neg (fun z => nq z.2), d6]
      · rw [if_neg er, c10 r er]
        refine (R.fst r hr).same fun c hc => ?_
        obtain ⟨rq, m1⟩ := mem_fst hc
        refine ⟨by rw [qK_sI, qK_sR, qK_sR, d3], ?_⟩
        rw [qR_sI, qR_sR, if_neg (fun z => by cases z.1), qR_sR, if_neg (fun z => nqo r hr er _ m1 z.2), d6]
        exact c7 r hr er _ m1
    · rw [qQ_sI, qQ_sR, qQ_sR]
      unfold cut
      by_cases er : r = r0
      · subst er
        rw [if_pos rfl]
        exact d11
      · rw [if_neg er, d9 _ _ (fun z => er z.2), c9 _ _ (by omega)]
        exact R.lst r hr
    · have m0 : c ∈ Z r ∧ ¬ c.1 = q.1 := by
        unfold cut at hc
        by_cases er : r = r0
        · subst er
          rw [if_pos rfl] at hc
          rcases List.mem_append.mp hc with z | z
          · exact ⟨mZ _ z, nqk _ z⟩
          · exact ⟨mR _ z, nqr _ z⟩
        · rw [if_neg er] at hc
          exact ⟨hc, nqo r hr er _ hc⟩
      obtain ⟨v1, v2, v3⟩ := R.rqs r hr c m0.1
      have cl0 := (R.tgr r hr c m0.1).2.1
      refine ⟨v1.same (fun f z1 z2 z3 => ⟨?_, ?_⟩) ?_ ?_ (fun wd w1 w2 => ⟨?_, ?_, ?_, ?_⟩), v2, v3⟩
      · rw [qI_sI, if_neg (by omega), qI_sR, qI_sR, d5]
      · rw [qR_sI, qR_sR, if_neg (by omega), qR_sR, if_neg (fun z => z3 z.1), d6, c6 _ _ z3]
      · rw [qQ_sI, qQ_sR, qQ_sR, d9 _ _ (by omega), c9 _ _ (by omega)]
      · rw [qQ_sI, qQ_sR, qQ_sR, d9 _ _ (by omega), c9 _ _ (by omega)]
      · rw [qT_sI, qT_sR, qT_sR, d1]; exact w1
      · rw [qK_sI, qK_sR, qK_sR, d3]; exact w2
      · rw [qI_sI, if_neg (fun z => by cases z.1), qI_sR, qI_sR, d5]
      · rw [qI_sI, if_neg (fun z => by cases z.1), qI_sR, qI_sR, d5]
    · unfold cut
      by_cases er : r = r0
      · subst er
        rw [if_pos rfl, List.map_append]
        refine List.nodup_append.mpr ⟨nd1, nd5, fun a ha b hb => ?_⟩
        exact nd3 a ha b (List.mem_cons_of_mem _ hb)
      · rw [if_neg er]
        exact R.ndr r hr
    · have m0 : c ∈ Z r ∧ ¬ c.1 = q.1 := by
        unfold cut at hc
        by_cases er : r = r0
        · subst er
          rw [if_pos rfl] at hc
          rcases List.mem_append.mp hc with z | z
          · exact ⟨mZ _ z, nqk _ z⟩
          · exact ⟨mR _ z, nqr _ z⟩
        · rw [if_neg er] at hc
          exact ⟨hc, nqo r hr er _ hc⟩
      dsimp only
      rw [if_neg m0.2, qT_sI, qT_sR, qT_sR, d1]
      exact R.tgr r hr c m0.1
    · rw [qR_sI, qR_sR, if_pos ⟨rfl, rfl⟩]
      refine ⟨rfl, by rw [qK_sI, qK_sR, qK_sR, d3]; exact ka, ?_⟩
      rw [qR_sI, qR_sR, if_neg (fun z => by cases z.1), qR_sR, if_pos ⟨rfl, rfl⟩, spE]
      refine S.spr.same fun c hc => ⟨by rw [qK_sI, qK_sR, qK_sR, d3], ?_⟩
      rw [qR_sI, qR_sR, if_neg (fun z => by cases z.1), qR_sR, if_neg (fun z => nqs c hc z.2), d6]
      exact c8 c hc
    · exact List.nodup_cons.mpr ⟨fun z => nqs _ z rfl, S.nds⟩
    · dsimp only
      rw [qT_sI, qT_sR, qT_sR, d1]
      rcases List.mem_cons.mp hc with z | z
      · rw [z, if_pos rfl]
        exact ⟨rfl, lq, qT⟩
      · rw [if_neg (nqs c z)]
        exact S.tgs c z
    · rw [qI_sI, if_pos ⟨rfl, rfl⟩, qI_sR, qI_sR, d5]
    · rw [qT_sI, qT_sR, qT_sR, d1]
    · rw [qU_sI, qU_sR, qU_sR, d2]
  rw [f_Pending_unlink]
  have nxt : ∀ z, hR h 640 q.1 = some z → hK h z = 11 := fun z hz => by
    rw [hz] at f4
    cases rs with
    | nil => cases f4
    | cons c rs =>
      obtain ⟨g1, g2, g3⟩ := f4
      injection g1 with g1
      rw [g1]
      exact g2
  cases eb : (kp.map Prod.fst).getLast? with
  | none =>
    have em : kp.map Prod.fst = [] := List.getLast?_eq_none_iff.mp eb
    have em2 : kp = [] := List.map_eq_nil_iff.mp em
    have := fin (sQ h (x + 9) r0 (hR h 640 q.1)) (qT_sQ ..) (qU_sQ ..) (qK_sQ ..) (qN_sQ ..) (qI_sQ ..) (fun f c _ => by rw [qR_sQ]) (fun r hr er c hc => by rw [qR_sQ]) (fun c hc => by rw [qR_sQ]) (fun c j z => by rw [qQ_sQ, if_neg (fun y => z y.1)]) (fun r z => by rw [qQ_sQ, if_neg (fun y => z y.2)]) (by
      rw [qQ_sQ, if_pos ⟨rfl, rfl⟩, em2, List.nil_append]
      exact f4.same fun c hc => ⟨by rw [qK_sQ], by rw [qR_sQ]⟩) ((Fr.refl h).cQ (Or.inr (Or.inr (Or.inr ⟨Or.inl rfl, rfl⟩))))
    rw [eb] at this
    rw [nu_none, gd_t ku, rq_k C.r_first C.k_first, rq_some ka, pw_e]
    have aqe : ∀ k : Option Hp, aq h (hR h 640 q.1) 11 k = k := fun k => by
      cases en : hR h 640 q.1 with
      | none => exact aq_none
      | some z => exact aq_some (nxt z en)
    rw [aqe, C.n_first, ixn l64 (by decide), pw_e]
    exact this
  | some z =>
    obtain ⟨l0, el0⟩ := List.getLast?_eq_some_iff.mp eb
    have zm : z ∈ kp.map Prod.fst := by rw [el0]; simp
    obtain ⟨rqz, qz⟩ := mem_fst zm
    have kz : hK h z = 11 := R.k l64 (mZ _ qz)
    have tz : tg z = r0 := (R.tgr r0 l64 _ (mZ _ qz)).1
    have nd0 : ¬ z ∈ l0 := by
      have := nd1
      rw [el0] at this
      intro y
      exact (List.nodup_append.mp this).2.2 z y z (List.mem_singleton.mpr rfl) rfl
    have := fin (sR h 640 z (hR h 640 q.1)) (qT_sR ..) (qU_sR ..) (qK_sR ..) (qN_sR ..) (qI_sR ..) (fun f c y => by rw [qR_sR, if_neg (fun w => y w.1)]) (fun r hr er c hc => by
      rw [qR_sR, if_neg (fun y => by
        have t1 := (R.tgr r hr c hc).1
        rw [y.2, tz] at t1
        exact er t1.symm)]) (fun c hc => by
      rw [qR_sR, if_neg (fun y => by
        have t1 := (S.tgs c hc).1
        rw [y.2, tz] at t1
        omega)]) (fun c j _ => by rw [qQ_sR]) (fun r _ => by rw [qQ_sR]) (by
      rw [qQ_sR, List.map_append, el0, List.append_assoc]
      rw [el0] at f1
      obtain ⟨q2, g1, g2⟩ := Lnk_app.mp f1
      refine Lnk_app.mpr ⟨q2, g1.same fun c hc => ⟨by rw [qK_sR], ?_⟩, ?_⟩
      · rw [qR_sR, if_neg (fun y => nd0 (by rw [← y.2]; exact hc))]
      · obtain ⟨g3, g4, g5⟩ := g2
        refine ⟨g3, by rw [qK_sR]; exact g4, ?_⟩
        rw [qR_sR, if_pos ⟨rfl, rfl⟩]
        refine f4.same fun c hc => ⟨by rw [qK_sR], ?_⟩
        obtain ⟨rqc, mc⟩ := mem_fst hc
        rw [qR_sR, if_neg (fun y => nd3 z zm z (List.mem_cons_of_mem _ (by rw [← y.2]; exact hc)) rfl)]) ((Fr.refl h).cR (Or.inr (Or.inl kz)))
    rw [eb] at this
    rw [nu_some, rq_some ka, pw_e, gd_t kz, pw_e]
    exact this
