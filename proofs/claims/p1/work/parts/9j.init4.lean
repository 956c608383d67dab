/-! the reference's constructor -/
def st (m : Nat) (h : Hp) (q : Nat × Nat × Nat) : Hp := sR (nw h q.2.1 q.2.2 q.2.2) q.1 m (some (hT h))
theorem st_e {h : Hp} {m kd n f : Nat} {k : Hp → Option Hp} (k1 : hK h m = 12) (hm : m < hT h) : (pw (hT h) fun a => pw (nw h kd n n) fun h2 => gd (hK h2 m = 12) <| pw (sR h2 f m (some a)) fun h3 => k h3) = k (st m h (f, kd, n)) := by
  rw [pw_e, pw_e, gd_t (by rw [qK_nw, if_neg (by omega)]; exact k1), pw_e]
  rfl
theorem st_k {h : Hp} {m : Nat} {q : Nat × Nat × Nat} (k1 : hK h m = 12) (hm : m < hT h) : hK (st m h q) m = 12 ∧ m < hT (st m h q) := by
  unfold st
  exact ⟨by rw [qK_sR, qK_nw, if_neg (by omega)]; exact k1, by rw [qT_sR, qT_nw]; omega⟩
def sumQ : List (Nat × Nat × Nat) → Nat
  | [] => 0
  | q :: L => q.2.2 + sumQ L
theorem st_ind {m : Nat} : ∀ (L : List (Nat × Nat × Nat)) (h : Hp), hK h m = 12 → m < hT h → (L.map Prod.fst).Nodup → hT (L.foldl (st m) h) = hT h + L.length ∧ hU (L.foldl (st m) h) = hU h + sumQ L ∧ hK (L.foldl (st m) h) m = 12 ∧ Fr (fun f a => a = m ∧ f ∈ L.map Prod.fst) h (L.foldl (st m) h) ∧ ∀ i q, L[i]? = some q → hR (L.foldl (st m) h) q.1 m = some (hT h + i) ∧ hK (L.foldl (st m) h) (hT h + i) = q.2.1 ∧ hN (L.foldl (st m) h) (hT h + i) = q.2.2 ∧ ∀ j, hA (L.foldl (st m) h) (hT h + i) j = 0 ∧ hL (L.foldl (st m) h) (hT h + i) j = 0 := by
  intro L
  induction L with
  | nil => intro h k1 hm _; exact ⟨rfl, rfl, k1, Fr.refl h, fun i q e => by simp at e⟩
  | cons q L ih =>
    intro h k1 hm nd
    obtain ⟨k2, hm2⟩ := st_k (q := q) k1 hm
    have nd1 := (List.nodup_cons.mp nd).1
    have nd2 := (List.nodup_cons.mp nd).2
    have t1 : hT (st m h q) = hT h + 1 := by unfold st; rw [qT_sR, qT_nw]
    have u1 : hU (st m h q) = hU h + q.2.2 := by unfold st; rw [qU_sR, qU_nw]
    obtain ⟨r1, r2, r3, r4, r5⟩ := ih (st m h q) k2 hm2 nd2
    have A : Fr (fun f a => a = m ∧ f ∈ (q :: L).map Prod.fst) h (st m h q) := by
      unfold st
      exact ((Fr.refl h).cN _ _ _).cR ⟨rfl, by simp⟩
    have nc : ¬ hT h = m := by omega
    refine ⟨?_, ?_, r3, ?_, fun i q2 e => ?_⟩
    · show hT (L.foldl (st m) (st m h q)) = _
      rw [r1, t1, List.length_cons]; omega
    · show hU (L.foldl (st m) (st m h q)) = _
      rw [r2, u1]
      show _ = hU h + (q.2.2 + sumQ L)
      omega
    · exact A.trans (r4.mono (fun f a _ y => ⟨y.1, by rw [List.map_cons]; exact List.mem_cons_of_mem _ y.2⟩))
    · show hR (L.foldl (st m) (st m h q)) q2.1 m = _ ∧ hK (L.foldl (st m) (st m h q)) _ = _ ∧ hN (L.foldl (st m) (st m h q)) _ = _ ∧ ∀ j, hA (L.foldl (st m) (st m h q)) _ j = 0 ∧ hL (L.foldl (st m) (st m h q)) _ j = 0
      cases i with
      | zero =>
        rw [List.getElem?_cons_zero] at e
        cases e
        obtain ⟨v1, v2, v3, v4⟩ := r4.2 (hT h) (by omega)
        have s1 : hR (st m h q) q.1 m = some (hT h) := by unfold st; rw [qR_sR, if_pos ⟨rfl, rfl⟩]
        have s2 : hK (st m h q) (hT h) = q.2.1 := by unfold st; rw [qK_sR, qK_nw, if_pos rfl]
        have s3 : hN (st m h q) (hT h) = q.2.2 := by unfold st; rw [qN_sR, qN_nw, if_pos rfl]
        have s4 : ∀ j, hA (st m h q) (hT h) j = 0 ∧ hL (st m h q) (hT h) j = 0 := fun j => by unfold st; exact ⟨by rw [qA_sR, qA_nw, if_pos rfl], by rw [qL_sR, qL_nw, if_pos rfl]⟩
        rw [Nat.add_zero, v1, v2, ((r4.2 m hm2).2.2.1 q.1 (fun y => nd1 y.2)).2]
        refine ⟨s1, s2, s3, fun j => ?_⟩
        have w := v4 (fun y => nc y.1) j
        rw [w.1, w.2.2]
        exact s4 j
      | succ i =>
        rw [List.getElem?_cons_succ] at e
        have w := r5 i q2 e
        rw [t1, show hT h + 1 + i = hT h + (i + 1) by omega] at w
        exact w
def LQ : List (Nat × Nat × Nat) := [(711, 110, 128), (712, 100, 4096), (713, 100, 32), (714, 100, 8), (731, 100, 8), (732, 100, 8), (733, 100, 8), (734, 100, 8), (735, 100, 128), (736, 100, 128), (737, 100, 128), (738, 100, 2560), (739, 100, 65536), (740, 100, 4096), (741, 100, 4096), (742, 101, 4096), (743, 101, 4096), (744, 100, 4096), (747, 100, 32768), (748, 100, 32768), (749, 100, 32768), (750, 100, 32768), (751, 100, 32768), (752, 100, 32768), (753, 100, 32), (754, 101, 32), (755, 101, 32), (763, 100, 32)]
def hM0 (h : Hp) (m : Nat) : Hp := sI (sI (sI (sI (sI (sI h 705 m 4) 706 m 4) 707 m 2) 708 m 4) 709 m 2) 710 m 512
theorem mod_1 {F m : Nat} {h : Hp} (k : hK h m = 12) (hm : m < hT h) : f_Mod_init F m h = clv (f_Mod_clearHouse F m (LQ.foldl (st m) (hM0 h m))) fun h_272 => some h_272 := by
  have k0 : hK (hM0 h m) m = 12 := by unfold hM0; simp only [qK_sI]; exact k
  have t0 : m < hT (hM0 h m) := by unfold hM0; simp only [qT_sI]; exact hm
  unfold LQ
  simp only [List.foldl_cons, List.foldl_nil]
  rw [f_Mod_init, gd_t k, pw_e, pw_e, pw_e, pw_e, pw_e, pw_e]
  rw [show sI (sI (sI (sI (sI (sI h 705 m 4) 706 m 4) 707 m 2) 708 m 4) 709 m 2) 710 m 512 = hM0 h m from rfl]
  generalize hM0 h m = g0 at k0 t0
  rw [st_e k0 t0]
  obtain ⟨k1, t1⟩ := st_k (q := (711, 110, 128)) k0 t0
  generalize st m g0 (711, 110, 128) = g1 at k1 t1
  rw [st_e k1 t1]
  obtain ⟨k2, t2⟩ := st_k (q := (712, 100, 4096)) k1 t1
  generalize st m g1 (712, 100, 4096) = g2 at k2 t2
  rw [st_e k2 t2]
  obtain ⟨k3, t3⟩ := st_k (q := (713, 100, 32)) k2 t2
  generalize st m g2 (713, 100, 32) = g3 at k3 t3
  rw [st_e k3 t3]
  obtain ⟨k4, t4⟩ := st_k (q := (714, 100, 8)) k3 t3
  generalize st m g3 (714, 100, 8) = g4 at k4 t4
  rw [st_e k4 t4]
  obtain ⟨k5, t5⟩ := st_k (q := (731, 100, 8)) k4 t4
  generalize st m g4 (731, 100, 8) = g5 at k5 t5
  rw [st_e k5 t5]
  obtain ⟨k6, t6⟩ := st_k (q := (732, 100, 8)) k5 t5
  generalize st m g5 (732, 100, 8) = g6 at k6 t6
  rw [st_e k6 t6]
  obtain ⟨k7, t7⟩ := st_k (q := (733, 100, 8)) k6 t6
  generalize st m g6 (733, 100, 8) = g7 at k7 t7
  rw [st_e k7 t7]
  obtain ⟨k8, t8⟩ := st_k (q := (734, 100, 8)) k7 t7
  generalize st m g7 (734, 100, 8) = g8 at k8 t8
  rw [st_e k8 t8]
  obtain ⟨k9, t9⟩ := st_k (q := (735, 100, 128)) k8 t8
  generalize st m g8 (735, 100, 128) = g9 at k9 t9
  rw [st_e k9 t9]
  obtain ⟨k10, t10⟩ := st_k (q := (736, 100, 128)) k9 t9
  generalize st m g9 (736, 100, 128) = g10 at k10 t10
  rw [st_e k10 t10]
  obtain ⟨k11, t11⟩ := st_k (q := (737, 100, 128)) k10 t10
  generalize st m g10 (737, 100, 128) = g11 at k11 t11
  rw [st_e k11 t11]
  obtain ⟨k12, t12⟩ := st_k (q := (738, 100, 2560)) k11 t11
  generalize st m g11 (738, 100, 2560) = g12 at k12 t12
  rw [st_e k12 t12]
  obtain ⟨k13, t13⟩ := st_k (q := (739, 100, 65536)) k12 t12
  generalize st m g12 (739, 100, 65536) = g13 at k13 t13
  rw [st_e k13 t13]
  obtain ⟨k14, t14⟩ := st_k (q := (740, 100, 4096)) k13 t13
  generalize st m g13 (740, 100, 4096) = g14 at k14 t14
  rw [st_e k14 t14]
  obtain ⟨k15, t15⟩ := st_k (q := (741, 100, 4096)) k14 t14
  generalize st m g14 (741, 100, 4096) = g15 at k15 t15
  rw [st_e k15 t15]
  obtain ⟨k16, t16⟩ := st_k (q := (742, 101, 4096)) k15 t15
  generalize st m g15 (742, 101, 4096) = g16 at k16 t16
  rw [st_e k16 t16]
  obtain ⟨k17, t17⟩ := st_k (q := (743, 101, 4096)) k16 t16
  generalize st m g16 (743, 101, 4096) = g17 at k17 t17
  rw [st_e k17 t17]
  obtain ⟨k18, t18⟩ := st_k (q := (744, 100, 4096)) k17 t17
  generalize st m g17 (744, 100, 4096) = g18 at k18 t18
  rw [st_e k18 t18]
  obtain ⟨k19, t19⟩ := st_k (q := (747, 100, 32768)) k18 t18
  generalize st m g18 (747, 100, 32768) = g19 at k19 t19
  rw [st_e k19 t19]
  obtain ⟨k20, t20⟩ := st_k (q := (748, 100, 32768)) k19 t19
  generalize st m g19 (748, 100, 32768) = g20 at k20 t20
  rw [st_e k20 t20]
  obtain ⟨k21, t21⟩ := st_k (q := (749, 100, 32768)) k20 t20
  generalize st m g20 (749, 100, 32768) = g21 at k21 t21
  rw [st_e k21 t21]
  obtain ⟨k22, t22⟩ := st_k (q := (750, 100, 32768)) k21 t21
  generalize st m g21 (750, 100, 32768) = g22 at k22 t22
  rw [st_e k22 t22]
  obtain ⟨k23, t23⟩ := st_k (q := (751, 100, 32768)) k22 t22
  generalize st m g22 (751, 100, 32768) = g23 at k23 t23
  rw [st_e k23 t23]
  obtain ⟨k24, t24⟩ := st_k (q := (752, 100, 32768)) k23 t23
  generalize st m g23 (752, 100, 32768) = g24 at k24 t24
  rw [st_e k24 t24]
  obtain ⟨k25, t25⟩ := st_k (q := (753, 100, 32)) k24 t24
  generalize st m g24 (753, 100, 32) = g25 at k25 t25
  rw [st_e k25 t25]
  obtain ⟨k26, t26⟩ := st_k (q := (754, 101, 32)) k25 t25
  generalize st m g25 (754, 101, 32) = g26 at k26 t26
  rw [st_e k26 t26]
  obtain ⟨k27, t27⟩ := st_k (q := (755, 101, 32)) k26 t26
  generalize st m g26 (755, 101, 32) = g27 at k27 t27
  rw [st_e k27 t27]
theorem st_i {m : Nat} : ∀ (L : List (Nat × Nat × Nat)) (h : Hp) (f a : Nat), a < hT h → hI (L.foldl (st m) h) f a = hI h f a := by
  intro L
  induction L with
  | nil => intro h f a _; rfl
  | cons q L ih =>
    intro h f a ha
    have t1 : hT (st m h q) = hT h + 1 := by unfold st; rw [qT_sR, qT_nw]
    show hI (L.foldl (st m) (st m h q)) f a = _
    rw [ih (st m h q) f a (by omega)]
    unfold st
    rw [qI_sR, qI_nw, if_neg (by omega)]
theorem fr_hM0 (h : Hp) (m : Nat) : Fr (fun _ a => a = m) h (hM0 h m) := by
  have q : ∀ P : Nat → Nat → Prop, (∀ f, P f m) → Fr P h (hM0 h m) := fun P p => by
    unfold hM0
    exact ((((((Fr.refl h).cI (p _)).cI (p _)).cI (p _)).cI (p _)).cI (p _)).cI (p _)
  exact q _ (fun f => rfl)
theorem f_hM0 {h : Hp} {m : Nat} (z : ∀ f, hI h f m = 0) : hK (hM0 h m) = hK h ∧ hT (hM0 h m) = hT h ∧ hU (hM0 h m) = hU h ∧ (hI (hM0 h m) 705 m = 4 ∧ hI (hM0 h m) 706 m = 4 ∧ hI (hM0 h m) 707 m = 2 ∧ hI (hM0 h m) 708 m = 4 ∧ hI (hM0 h m) 709 m = 2 ∧ hI (hM0 h m) 710 m = 512) ∧ ∀ f, 711 ≤ f → hI (hM0 h m) f m = 0 := by
  unfold hM0
  refine ⟨by simp only [qK_sI], by simp only [qT_sI], by simp only [qU_sI], ⟨by simp [qI_sI], by simp [qI_sI], by simp [qI_sI], by simp [qI_sI], by simp [qI_sI], by simp [qI_sI]⟩, fun f hf => ?_⟩
  rw [qI_sI, if_neg (fun y => by omega), qI_sI, if_neg (fun y => by omega), qI_sI, if_neg (fun y => by omega), qI_sI, if_neg (fun y => by omega), qI_sI, if_neg (fun y => by omega), qI_sI, if_neg (fun y => by omega)]
  exact z f
theorem mod_f {m : Nat} {g : Hp} (k0 : hK g m = 12) (t0 : hT g = m + 1) : Md (LQ.foldl (st m) g) m ∧ hT (LQ.foldl (st m) g) = m + 29 ∧ hU (LQ.foldl (st m) g) = hU g + sumQ LQ ∧ Fr (fun _ a => a = m) g (LQ.foldl (st m) g) ∧ (∀ f, hI (LQ.foldl (st m) g) f m = hI g f m) ∧ (∀ j, hA (LQ.foldl (st m) g) (m + 2) j = 0) ∧ (∀ j, hL (LQ.foldl (st m) g) (m + 1) j = 0) := by
  obtain ⟨r1, r2, r3, r4, r5⟩ := st_ind LQ g k0 (by omega) (by decide)
  have mi : ∀ f, hI (LQ.foldl (st m) g) f m = hI g f m := fun f => st_i LQ g f m (by omega)
  rw [t0] at r1 r5
  generalize LQ.foldl (st m) g = K at r1 r2 r3 r4 r5 mi
  have c : ∀ i f kd n, LQ[i]? = some (f, kd, n) → hR K f m = some (m + 1 + i) ∧ hK K (m + 1 + i) = kd ∧ hN K (m + 1 + i) = n := fun i f kd n e => ⟨(r5 i _ e).1, (r5 i _ e).2.1, (r5 i _ e).2.2.1⟩
  refine ⟨⟨r3, c 0 _ _ _ rfl, c 1 _ _ _ rfl, c 2 _ _ _ rfl, c 3 _ _ _ rfl, c 4 _ _ _ rfl, c 5 _ _ _ rfl, c 6 _ _ _ rfl, c 7 _ _ _ rfl, c 8 _ _ _ rfl, c 9 _ _ _ rfl, c 10 _ _ _ rfl, c 11 _ _ _ rfl, c 12 _ _ _ rfl, c 13 _ _ _ rfl, c 14 _ _ _ rfl, c 15 _ _ _ rfl, c 16 _ _ _ rfl, c 17 _ _ _ rfl, c 18 _ _ _ rfl, c 19 _ _ _ rfl, c 20 _ _ _ rfl, c 21 _ _ _ rfl, c 22 _ _ _ rfl, c 23 _ _ _ rfl, c 24 _ _ _ rfl, c 25 _ _ _ rfl, c 26 _ _ _ rfl, c 27 _ _ _ rfl⟩, r1, r2, r4.mono (fun f a _ y => y.1), mi, fun j => ((r5 1 _ rfl).2.2.2 j).1, fun j => ((r5 0 _ rfl).2.2.2 j).2⟩
