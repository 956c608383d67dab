/-! a row, from its first to its last -/
theorem Lnk_head {h : Hp} : ∀ {l : List Nat} {p : Option Nat}, Lnk h p l none → p = l.head? := by
  intro l
  cases l with
  | nil => intro p H; exact H
  | cons a l => intro p H; exact H.1
theorem Rws.sa {h k : Hp} {x lo : Nat} {tg : Nat → Nat} {Z : RowT} (R : Rws h x lo tg Z) (e1 : hT k = hT h) (e2 : hK k = hK h) (e3 : hI k = hI h) (e4 : hR k = hR h) (e5 : hQ k = hQ h) : Rws k x lo tg Z := by
  refine R.same (fun r hr => by rw [e5]; exact ⟨rfl, rfl⟩) (fun r hr q hq => ⟨by rw [e2], rfl, by rw [e1]; exact (R.tgr r hr q hq).2.2, fun f _ _ => by rw [e3, e4]; exact ⟨rfl, rfl⟩⟩) (fun u j _ _ => by rw [e5]) (fun j => by rw [e5]) (fun wd w1 w2 => by rw [e1, e2, e3]; exact ⟨w1, w2, rfl, rfl⟩)
theorem Spr.sa {h k : Hp} {x lo : Nat} {tg : Nat → Nat} {sp : List Nat} (S : Spr h x lo tg sp) (e1 : hT k = hT h) (e2 : hK k = hK h) (e4 : hR k = hR h) : Spr k x lo tg sp := by
  refine ⟨?_, S.nds, fun a ha => by rw [e1]; exact S.tgs a ha⟩
  rw [e4]
  exact S.spr.same fun a _ => by rw [e2, e4]; exact ⟨rfl, rfl⟩
theorem pfC_o (h : Hp) (x rg : Nat) (r : Rq) : hT (pfC h x rg r) = hT h ∧ hU (pfC h x rg r) = hU h ∧ hK (pfC h x rg r) = hK h ∧ hN (pfC h x rg r) = hN h ∧ hI (pfC h x rg r) = hI h ∧ hR (pfC h x rg r) = hR h ∧ hQ (pfC h x rg r) = hQ h := by
  unfold pfC
  split
  · simp only [qT_sA, qU_sA, qK_sA, qN_sA, qI_sA, qR_sA, qQ_sA, and_self]
  · simp only [qT_sA, qU_sA, qK_sA, qN_sA, qI_sA, qR_sA, qQ_sA, and_self]
theorem pfC_f {h : Hp} {x : Nat} {bs : Nat → Bool} {rgF : Nat → Nat} {r : Rq} (hs : r.s < 128) (hb : bs r.s = true) : Fr (PF x bs rgF h) h (pfC h x (rgF r.s) r) := by
  unfold pfC
  split
  · exact (Fr.refl h).cA (Or.inr ⟨rfl, Or.inl rfl⟩)
  · exact ((Fr.refl h).cA (Or.inr ⟨rfl, Or.inl rfl⟩)).cA (Or.inr ⟨rfl, Or.inr ⟨r.s, hs, hb, rfl⟩⟩)
theorem PF_cd {x : Nat} {bs : Nat → Bool} {rgF : Nat → Nat} {h k : Hp} (C : Cd h x) (A : Fr (PF x bs rgF h) h k) (hx : x + 38 < hT h) (nR : ∀ s, s < 128 → bs s = true → x + 38 < rgF s) : Cd k x := by
  have g : ∀ f a, a ≤ x + 38 → ¬ hK h a = 11 → ¬ (a = x + 8 ∧ (f = 258 ∨ f = 259)) → ¬ ((a = x + 9 ∨ a = x + 10) ∧ f = 9999) → ¬ (a = x + 4 ∧ f = 9999) → ¬ PF x bs rgF h f a := by
    intro f a ha q1 q2 q3 q4 z
    rcases z with (z | z | z | z) | ⟨z, z2 | ⟨s, s1, s2, s3⟩⟩
    · omega
    · exact q1 z
    · exact q2 z
    · exact q3 z
    · exact q4 ⟨z2, z⟩
    · have := nR s s1 s2
      omega
  refine C.frame A hx (fun f hf => g f _ (by omega) (by rw [C.k]; decide) (by omega) (by omega) (by omega)) (fun f h1 h2 => g f _ (by omega) (by rw [C.k_memory]; decide) (by omega) (by omega) (by omega)) (fun f h1 h2 => g f _ (by omega) (by rw [C.k_cache]; decide) (by omega) (by omega) (by omega)) (fun f h1 h2 => g f _ (by omega) (by rw [C.k_pending]; decide) (by omega) (by omega) (by omega)) (g _ _ (by omega) (by rw [C.k_units]; decide) (by omega) (by omega) (by omega)) (fun u f hu h1 h2 => g f _ (by omega) (by rw [(C.u u hu).2.1]; decide) (by omega) (by omega) (by omega))
/-- the heap as finishing needs it -/
def FE (h : Hp) (x lo ln sz : Nat) (bs : Nat → Bool) (rgF : Nat → Nat) : Prop := (Cd h x) ∧ (x + 38 < hT h) ∧ (x + 38 < lo) ∧ (hI h 131 (x + 3) = nI sz) ∧ (sz ≤ 4096) ∧ (ln ≤ 32) ∧ (∀ s, s < 128 → bs s = true → hK h (rgF s) = 100 ∧ lo ≤ rgF s ∧ rgF s < hT h) ∧ (∀ s t, s < 128 → t < 128 → bs s = true → bs t = true → rgF s = rgF t → s = t)
theorem FE.C {h : Hp} {x lo ln sz : Nat} {bs : Nat → Bool} {rgF : Nat → Nat} (H : FE h x lo ln sz bs rgF) : Cd h x := H.1
theorem FE.hx {h : Hp} {x lo ln sz : Nat} {bs : Nat → Bool} {rgF : Nat → Nat} (H : FE h x lo ln sz bs rgF) : x + 38 < hT h := H.2.1
theorem FE.lx {h : Hp} {x lo ln sz : Nat} {bs : Nat → Bool} {rgF : Nat → Nat} (H : FE h x lo ln sz bs rgF) : x + 38 < lo := H.2.2.1
theorem FE.hsz {h : Hp} {x lo ln sz : Nat} {bs : Nat → Bool} {rgF : Nat → Nat} (H : FE h x lo ln sz bs rgF) : hI h 131 (x + 3) = nI sz := H.2.2.2.1
theorem FE.s4 {h : Hp} {x lo ln sz : Nat} {bs : Nat → Bool} {rgF : Nat → Nat} (H : FE h x lo ln sz bs rgF) : sz ≤ 4096 := H.2.2.2.2.1
theorem FE.l32 {h : Hp} {x lo ln sz : Nat} {bs : Nat → Bool} {rgF : Nat → Nat} (H : FE h x lo ln sz bs rgF) : ln ≤ 32 := H.2.2.2.2.2.1
theorem FE.kR {h : Hp} {x lo ln sz : Nat} {bs : Nat → Bool} {rgF : Nat → Nat} (H : FE h x lo ln sz bs rgF) : ∀ s, s < 128 → bs s = true → hK h (rgF s) = 100 ∧ lo ≤ rgF s ∧ rgF s < hT h := H.2.2.2.2.2.2.1
theorem FE.inj {h : Hp} {x lo ln sz : Nat} {bs : Nat → Bool} {rgF : Nat → Nat} (H : FE h x lo ln sz bs rgF) : ∀ s t, s < 128 → t < 128 → bs s = true → bs t = true → rgF s = rgF t → s = t := H.2.2.2.2.2.2.2

theorem FE.fr {h k : Hp} {x lo ln sz : Nat} {bs : Nat → Bool} {rgF : Nat → Nat} (E : FE h x lo ln sz bs rgF) (A : Fr (PF x bs rgF h) h k) : FE k x lo ln sz bs rgF := by
  have hT1 := A.1
  have hx := E.hx
  have lx := E.lx
  have q := PF_q E.C A (show x + 3 < hT h by omega) (by rw [E.C.k_memory]; decide) (by rw [E.C.k_memory]; decide) (by rw [E.C.k_memory]; decide)
  refine ⟨PF_cd E.C A hx (fun s s1 s2 => by have := (E.kR s s1 s2).2.1; omega), by omega, lx, by rw [(q.2.2.1 _ (by decide)).1]; exact E.hsz, E.s4, E.l32, fun s s1 s2 => ?_, E.inj⟩
  obtain ⟨k1, k2, k3⟩ := E.kR s s1 s2
  exact ⟨by rw [(A.2 _ k3).1]; exact k1, k2, by omega⟩
theorem MsC.pa {h k : Hp} {x lo ln sz : Nat} {bs : Nat → Bool} {rgF : Nat → Nat} {σ : Ms} (m0 : MsC h x ln sz bs rgF σ) (E : FE h x lo ln sz bs rgF) (A : Fr (PA x h) h k) : MsC k x ln sz bs rgF σ := by
  have hx := E.hx
  have q := PA_q E.C A (show x + 4 < hT h by omega) (by rw [E.C.k_ints]; decide) (by rw [E.C.k_ints]; decide) (by rw [E.C.k_ints]; decide)
  refine ⟨fun p hp => by rw [(q.2.2.2 p).1]; exact m0.1 p hp, fun s s1 s2 j hj => ?_⟩
  obtain ⟨k1, k2, k3⟩ := E.kR s s1 s2
  have q2 := PA_q E.C A k3 (by rw [k1]; decide) (by rw [k1]; decide) (by rw [k1]; decide)
  rw [(q2.2.2.2 j).1]
  exact m0.2 s s1 s2 j hj
theorem cut_cut (Z : RowT) (r0 : Nat) (l1 l2 : List (Nat × Rq)) : cut (cut Z r0 l1) r0 l2 = cut Z r0 l2 := by
  funext r
  unfold cut
  split <;> rfl
theorem l_finish {F : Nat} {x lo ln sz r0 : Nat} {bs : Nat → Bool} {rgF : Nat → Nat} {c : Int32} (hF : 40000 ≤ F) (l64 : r0 < 64) : ∀ (rs : List (Nat × Rq)) (kp : List (Nat × Rq)) (h : Hp) (n N : Nat) (tg : Nat → Nat) (Z : RowT) (sp : List Nat) (σ : Ms), FE h x lo ln sz bs rgF → Rws h x lo tg Z → Spr h x lo tg sp → Z r0 = kp ++ rs → MsC h x ln sz bs rgF σ → (∀ q, q ∈ rs → RqE h x lo ln sz rgF q.2 ∧ bs q.2.s = true) → rs.length < n → hI h 259 (x + 8) = nI N → (rs.filter (fun q => dueB c q.2)).length ≤ N → ∃ k tg2 sp2, b_Pending_finish_16 F n (x + 8) c (some (x + 3)) (nI r0) ((kp.map Prod.fst).getLast?) ((rs.map Prod.fst).head?) h = some k ∧ Fr (PF x bs rgF h) h k ∧ Rws k x lo tg2 (cut Z r0 (kp ++ rs.filter (fun q => !(dueB c q.2)))) ∧ Spr k x lo tg2 sp2 ∧ MsC k x ln sz bs rgF (((rs.filter (fun q => dueB c q.2)).map Prod.snd).foldl pf σ) ∧ hI k 259 (x + 8) = nI (N - (rs.filter (fun q => dueB c q.2)).length) ∧ sp2.length = sp.length + (rs.filter (fun q => dueB c q.2)).length ∧ hT k = hT h ∧ hU k = hU h := by
  intro rs
  induction rs with
  | nil =>
    intro kp h n N tg Z sp σ E R S eZ m0 _ hn cN _
    obtain ⟨n, rfl⟩ : ∃ m, n = m + 1 := ⟨n - 1, by omega⟩
    refine ⟨h, tg, sp, ?_, Fr.refl h, ?_, S, m0, cN, rfl, rfl, rfl⟩
    · rw [b_Pending_finish_16]
      rfl
    · have : cut Z r0 (kp ++ [].filter (fun q : Nat × Rq => !(dueB c q.2))) = Z := by
        funext r
        unfold cut
        by_cases z : r = r0
        · rw [if_pos z, z, eZ]; rfl
        · rw [if_neg z]
      rw [this]
      exact R
  | cons q rs ih =>
    intro kp h n N tg Z sp σ E R S eZ m0 eq hn cN lN
    obtain ⟨n, rfl⟩ : ∃ m, n = m + 1 := ⟨n - 1, by omega⟩
    have qm : q ∈ Z r0 := by rw [eZ]; simp
    have ka : hK h q.1 = 11 := R.k l64 qm
    have f0 := R.fst r0 l64
    rw [eZ, List.map_append, List.map_cons] at f0
    obtain ⟨qp, f1, f2, f3, f4⟩ := Lnk_app.mp f0
    have en : hR h 640 q.1 = (rs.map Prod.fst).head? := Lnk_head f4
    obtain ⟨Rq1, _, _⟩ := R.rqs r0 l64 q qm
    have eS : b_Pending_finish_16 F (n + 1) (x + 8) c (some (x + 3)) (nI r0) ((kp.map Prod.fst).getLast?) (((q :: rs).map Prod.fst).head?) h = if q.2.t = c then (clv (f_Memory_perform F (x + 3) (some q.1) h) fun h_40_2 => gd (hK h_40_2 (x + 8) = 5) <| clv (f_Pending_unlink F (x + 8) (nI r0) ((kp.map Prod.fst).getLast?) (some q.1) h_40_2) fun h_49_2 => b_Pending_finish_16 F n (x + 8) c (some (x + 3)) (nI r0) ((kp.map Prod.fst).getLast?) ((rs.map Prod.fst).head?) h_49_2) else b_Pending_finish_16 F n (x + 8) c (some (x + 3)) (nI r0) (some q.1) ((rs.map Prod.fst).head?) h := by
      rw [b_Pending_finish_16]
      dsimp only
      rw [List.map_cons, List.head?_cons, nu_some, gd_t ka, pw_e, en, Rq1.1, rq_some E.C.k_memory]
    rw [eS]
    by_cases due : q.2.t = c
    · have db : dueB c q.2 = true := decide_eq_true due
      have fp : (q :: rs).filter (fun q => dueB c q.2) = q :: rs.filter (fun q => dueB c q.2) := List.filter_cons_of_pos (p := fun (q : Nat × Rq) => dueB c q.2) db
      have fn : (q :: rs).filter (fun q => !(dueB c q.2)) = rs.filter (fun q => !(dueB c q.2)) := List.filter_cons_of_neg (p := fun (q : Nat × Rq) => !(dueB c q.2)) (by rw [db]; decide)
      obtain ⟨E1, hb⟩ := eq q (List.mem_cons_self ..)
      have pe := c_Memory_perform (F := F) hF E.C E.hx E.lx E.hsz E.s4 ka Rq1 E1
      obtain ⟨o1, o2, o3, o4, o5, o6, o7⟩ := pfC_o h x (rgF q.2.s) q.2
      have A1 : Fr (PF x bs rgF h) h (pfC h x (rgF q.2.s) q.2) := pfC_f E1.1.1.1 hb
      have m1 := pfC_ms m0 E1.2.1 E1.1.1.1 E1.1.1.2.2.2.2.1 E1.2.2.1 E.l32 (fun s s1 s2 z => by have := (E.kR s s1 s2).2.1; have := E.lx; omega) E.inj hb
      generalize pfC h x (rgF q.2.s) q.2 = h1 at *
      have EE1 := E.fr A1
      have R1 := R.sa o1 o3 o5 o6 o7
      have S1 := S.sa o1 o3 o6
      obtain ⟨h2, tg2, u1, u2, u3, u4, u5, u6, u7⟩ := l_unlink (F := F) EE1.C R1 S1 EE1.hx EE1.lx l64 eZ
      have EE2 := EE1.fr (PF.of u2)
      have cN1 : hI h2 259 (x + 8) = nI (N - 1) := by
        rw [u5, o5, cN, show (1 : Int32) = nI 1 from rfl, pk_sub]
        rw [fp, List.length_cons] at lN
        omega
      rw [fp, List.length_cons] at lN
      have A2 : Fr (PF x bs rgF h) h h2 := PF.tr A1 (PF.of u2)
      obtain ⟨k, tg3, sp3, v1, v2, v3, v4, v5, v6, v7, v8, v9⟩ := ih kp h2 n (N - 1) tg2 (cut Z r0 (kp ++ rs)) (q.1 :: sp) (pf σ q.2) EE2 u3 u4 (by unfold cut; rw [if_pos rfl]) (m1.pa EE1 u2) (fun y hy => ⟨((eq y (List.mem_cons_of_mem _ hy)).1).fr E.C A2 E.hx E.lx (fun s s1 s2 => (E.kR s s1 s2).1), (eq y (List.mem_cons_of_mem _ hy)).2⟩) (by simp only [List.length_cons] at hn; omega) cN1 (by omega)
      refine ⟨k, tg3, sp3, ?_, PF.tr A2 v2, ?_, v4, ?_, ?_, ?_, by omega, by omega⟩
      · rw [if_pos due, pe, clv_some, gd_t (by rw [o3]; exact E.C.k_pending), u1, clv_some]
        exact v1
      · rw [cut_cut] at v3
        rw [fn]
        exact v3
      · rw [fp, List.map_cons]
        exact v5
      · rw [fp, List.length_cons, v6]
        congr 1
        omega
      · rw [fp, List.length_cons, v7, List.length_cons]
        omega
    · have db : dueB c q.2 = false := decide_eq_false due
      have fp : (q :: rs).filter (fun q => dueB c q.2) = rs.filter (fun q => dueB c q.2) := List.filter_cons_of_neg (p := fun (q : Nat × Rq) => dueB c q.2) (by rw [db]; decide)
      have fn : (q :: rs).filter (fun q => !(dueB c q.2)) = q :: rs.filter (fun q => !(dueB c q.2)) := List.filter_cons_of_pos (p := fun (q : Nat × Rq) => !(dueB c q.2)) (by rw [db]; rfl)
      have eg : (kp ++ [q]).map Prod.fst = kp.map Prod.fst ++ [q.1] := by rw [List.map_append]; rfl
      rw [fp] at lN
      obtain ⟨k, tg3, sp3, v1, v2, v3, v4, v5, v6, v7, v8, v9⟩ := ih (kp ++ [q]) h n N tg Z sp σ E R S (by rw [eZ, List.append_assoc]; rfl) m0 (fun y hy => eq y (List.mem_cons_of_mem _ hy)) (by simp only [List.length_cons] at hn; omega) cN lN
      refine ⟨k, tg3, sp3, ?_, v2, ?_, v4, ?_, ?_, ?_, v8, v9⟩
      · rw [if_neg due]
        rw [eg, List.getLast?_append] at v1
        simpa using v1
      · rw [fn]
        rw [List.append_assoc] at v3
        exact v3
      · rw [fp]
        exact v5
      · rw [fp]
        exact v6
      · rw [fp]
        exact v7
theorem c_Memory_finish {F : Nat} {h : Hp} {x lo ln sz r0 N : Nat} {bs : Nat → Bool} {rgF : Nat → Nat} {c : Int32} {tg : Nat → Nat} {Z : RowT} {sp : List Nat} {σ : Ms} (hF : 40000 ≤ F) (ec : (c &&& 63) = nI r0) (l64 : r0 < 64) (E : FE h x lo ln sz bs rgF) (R : Rws h x lo tg Z) (S : Spr h x lo tg sp) (m0 : MsC h x ln sz bs rgF σ) (eq : ∀ q, q ∈ Z r0 → RqE h x lo ln sz rgF q.2 ∧ bs q.2.s = true) (lF : (Z r0).length < F) (cN : hI h 259 (x + 8) = nI N) (lN : ((Z r0).filter (fun q => dueB c q.2)).length ≤ N) (nb : N < 2 ^ 31) : ∃ k tg2 sp2, f_Memory_finish F (x + 3) c h = some k ∧ Fr (PF x bs rgF h) h k ∧ Rws k x lo tg2 (cut Z r0 ((Z r0).filter (fun q => !(dueB c q.2)))) ∧ Spr k x lo tg2 sp2 ∧ MsC k x ln sz bs rgF ((((Z r0).filter (fun q => dueB c q.2)).map Prod.snd).foldl pf σ) ∧ hI k 259 (x + 8) = nI (N - ((Z r0).filter (fun q => dueB c q.2)).length) ∧ sp2.length = sp.length + ((Z r0).filter (fun q => dueB c q.2)).length ∧ hT k = hT h ∧ hU k = hU h := by
  by_cases z0 : N = 0
  · subst z0
    have e0 : ((Z r0).filter (fun q => dueB c q.2)) = [] := List.length_eq_zero_iff.mp (by omega)
    have e1 : (Z r0).filter (fun q => !(dueB c q.2)) = Z r0 := List.filter_eq_self.mpr fun q hq => by
      have := List.filter_eq_nil_iff.mp e0 q hq
      simpa using this
    refine ⟨h, tg, sp, ?_, Fr.refl h, ?_, S, by rw [e0]; exact m0, by rw [e0]; exact cN, by rw [e0]; rfl, rfl, rfl⟩
    · rw [f_Memory_finish, gd_t E.C.k_memory, rq_k E.C.r_pending E.C.k_pending, cN, if_pos (by decide)]
    · rw [e1]
      have : cut Z r0 (Z r0) = Z := by
        funext r
        unfold cut
        by_cases y : r = r0
        · rw [if_pos y, y]
        · rw [if_neg y]
      rw [this]
      exact R
  · have st := l_finish (F := F) (c := c) hF l64 (Z r0) [] h F N tg Z sp σ E R S rfl m0 eq lF cN lN
    obtain ⟨k, tg2, sp2, v1, v2, v3, v4, v5, v6, v7, v8, v9⟩ := st
    refine ⟨k, tg2, sp2, ?_, v2, v3, v4, v5, v6, v7, v8, v9⟩
    have eh : hQ h (x + 9) r0 = ((Z r0).map Prod.fst).head? := Lnk_head (R.fst r0 l64)
    rw [f_Memory_finish, gd_t E.C.k_memory, rq_k E.C.r_pending E.C.k_pending, cN, if_neg (nI_nle (by omega) nb), f_Pending_finish, gd_t E.C.k_pending, rq_k E.C.r_first E.C.k_first, ec, E.C.n_first, ixn l64 (by decide), pw_e, eh]
    rw [show b_Pending_finish_16 F F (x + 8) c (some (x + 3)) (nI r0) none ((Z r0).map Prod.fst).head? h = some k from v1, clv_some]
