/-! forgetting what is on its way -/
def sumL (Z : RowT) : Nat → Nat
  | 0 => 0
  | n + 1 => sumL Z n + (Z n).length
theorem sumL_cut {Z : RowT} {r0 : Nat} {l : List (Nat × Rq)} : ∀ n, sumL (cut Z r0 l) n + (if r0 < n then (Z r0).length else 0) = sumL Z n + (if r0 < n then l.length else 0) := by
  intro n
  induction n with
  | zero => rfl
  | succ n ih =>
    show sumL (cut Z r0 l) n + (cut Z r0 l n).length + _ = sumL Z n + (Z n).length + _
    by_cases e : n = r0
    · subst e
      rw [if_neg (by omega), if_neg (by omega)] at ih
      rw [if_pos (by omega), if_pos (by omega), show cut Z n l n = l from if_pos rfl]
      omega
    · rw [show cut Z r0 l n = Z n from if_neg e]
      by_cases c : r0 < n
      · rw [if_pos c, if_pos c] at ih
        rw [if_pos (by omega), if_pos (by omega)]
        omega
      · rw [if_neg c, if_neg c] at ih
        rw [if_neg (by omega), if_neg (by omega)]
        omega
theorem sumL_app {Z : RowT} {l : RowT} : ∀ n, sumL (fun r => Z r ++ l r) n = sumL Z n + sumL l n := by
  intro n
  induction n with
  | zero => rfl
  | succ n ih =>
    show sumL (fun r => Z r ++ l r) n + (Z n ++ l n).length = sumL Z n + (Z n).length + (sumL l n + (l n).length)
    rw [ih, List.length_append]
    omega
theorem l_forget1 {F n : Nat} {h : Hp} {x lo r0 : Nat} {tg : Nat → Nat} {Z : RowT} {sp : List Nat} (C : Cd h x) (R : Rws h x lo tg Z) (S : Spr h x lo tg sp) (hx : x + 38 < hT h) (lx : x + 38 < lo) (l64 : r0 < 64) : ∃ k tg2, b_Pending_forget_2 F (n + 1) (x + 8) (nI r0) h = b_Pending_forget_2 F n (x + 8) (nI (r0 + 1)) k ∧ Fr (PA x h) h k ∧ Rws k x lo tg2 (cut Z r0 []) ∧ Spr k x lo tg2 ((Z r0).map Prod.fst ++ sp) ∧ hT k = hT h ∧ hU k = hU h := by
  have c : ¬ (64 : Int32) ≤ nI r0 := nI_ge l64 (by decide)
  have el := R.lst r0 l64
  rw [b_Pending_forget_2]
  dsimp only
  rw [if_neg c, gd_t C.k_pending, rq_k C.r_last C.k_last, C.n_last, ixn l64 (by decide), pw_e, el]
  cases eg : ((Z r0).map Prod.fst).getLast? with
  | none =>
    have em : (Z r0).map Prod.fst = [] := List.getLast?_eq_none_iff.mp eg
    have em2 : Z r0 = [] := List.map_eq_nil_iff.mp em
    have ec : cut Z r0 [] = Z := by
      funext r
      unfold cut
      by_cases z : r = r0
      · rw [if_pos z, z, em2]
      · rw [if_neg z]
    refine ⟨h, tg, by rw [nu_none, nI_1], Fr.refl h, by rw [ec]; exact R, by rw [em]; exact S, rfl, rfl⟩
  | some z =>
    obtain ⟨l0, el0⟩ := List.getLast?_eq_some_iff.mp eg
    have zm : z ∈ (Z r0).map Prod.fst := by rw [el0]; simp
    obtain ⟨rqz, qz⟩ := mem_fst zm
    have kz : hK h z = 11 := R.k l64 qz
    obtain ⟨tz, lz, zT⟩ := R.tgr r0 l64 _ qz
    have zx : ¬ z = x + 8 := by have y : lo ≤ z := lz; omega
    have nd0 : ¬ z ∈ l0 := by
      have := R.ndr r0 l64
      rw [el0] at this
      intro y
      exact (List.nodup_append.mp this).2.2 z y z (List.mem_singleton.mpr rfl) rfl
    have zsp : ∀ c, c ∈ sp → ¬ c = z := fun c hc y => by
      have := (S.tgs c hc).1
      rw [y] at this
      have t2 : tg z = r0 := tz
      omega
    have mem0 : ∀ c, c ∈ (Z r0).map Prod.fst → tg c = r0 ∧ lo ≤ c ∧ c < hT h := fun c hc => by
      obtain ⟨rqc, qc⟩ := mem_fst hc
      exact R.tgr r0 l64 _ qc
    have r256 : hR (sR h 640 z (hR h 258 (x + 8))) 256 (x + 8) = some (x + 9) := by rw [qR_sR, if_neg (fun y => by cases y.1)]; exact C.r_first
    rw [nu_some, ixn l64 (by decide), el, eg, rq_some kz, pw_e, pw_e, rq_k r256 (by rw [qK_sR]; exact C.k_first), qN_sR, C.n_first, ixn l64 (by decide), pw_e, pw_e]
    have e2 : ∀ v, hR (sR (sR h 640 z (hR h 258 (x + 8))) 258 (x + 8) v) 256 (x + 8) = some (x + 9) := fun v => by rw [qR_sR, if_neg (fun y => by cases y.1)]; exact r256
    rw [rq_k (e2 _) (by rw [qK_sR, qK_sR]; exact C.k_first), qN_sR, qN_sR, C.n_first, ixn l64 (by decide), pw_e]
    have e3 : ∀ v w, hR (sQ (sR (sR h 640 z (hR h 258 (x + 8))) 258 (x + 8) v) (x + 9) r0 w) 257 (x + 8) = some (x + 10) := fun v w => by rw [qR_sQ, qR_sR, if_neg (fun y => by cases y.1), qR_sR, if_neg (fun y => by cases y.1)]; exact C.r_last
    rw [rq_k (e3 _ _) (by rw [qK_sQ, qK_sR, qK_sR]; exact C.k_last), qN_sQ, qN_sR, qN_sR, C.n_last, ixn l64 (by decide), pw_e, nI_1]
    have ef : hQ (sR h 640 z (hR h 258 (x + 8))) (x + 9) r0 = hQ h (x + 9) r0 := by rw [qQ_sR]
    rw [ef]
    refine ⟨_, fun c => if c ∈ (Z r0).map Prod.fst then 64 else tg c, rfl, ?_, ⟨fun r hr => ?_, fun r hr => ?_, fun r hr q hq => ?_, fun r hr => ?_, fun r hr q hq => ?_⟩, ⟨?_, ?_, fun c hc => ?_⟩, by rw [qT_sQ, qT_sQ, qT_sR, qT_sR], by rw [qU_sQ, qU_sQ, qU_sR, qU_sR]⟩
    · exact ((((Fr.refl h).cR (Or.inr (Or.inl kz))).cR (Or.inr (Or.inr (Or.inl ⟨rfl, Or.inl rfl⟩)))).cQ (Or.inr (Or.inr (Or.inr ⟨Or.inl rfl, rfl⟩)))).cQ (Or.inr (Or.inr (Or.inr ⟨Or.inr rfl, rfl⟩)))
    · unfold cut
      by_cases er : r = r0
      · subst er
        rw [if_pos rfl, qQ_sQ, if_neg (by omega), qQ_sQ, if_pos ⟨rfl, rfl⟩]
        rfl
      · rw [if_neg er, qQ_sQ, if_neg (by omega), qQ_sQ, if_neg (fun y => er y.2), qQ_sR, qQ_sR]
        refine (R.fst r hr).same fun a ha => ⟨by rw [qK_sQ, qK_sQ, qK_sR, qK_sR], ?_⟩
        obtain ⟨rqa, qa⟩ := mem_fst ha
        rw [qR_sQ, qR_sQ, qR_sR, if_neg (fun y => by cases y.1), qR_sR, if_neg (fun y => by
          have t1 : tg a = r := (R.tgr r hr _ qa).1
          have t2 : tg z = r0 := tz
          rw [y.2] at t1
          omega)]
    · unfold cut
      by_cases er : r = r0
      · subst er
        rw [if_pos rfl, qQ_sQ, if_pos ⟨rfl, rfl⟩]
        rfl
      · rw [if_neg er, qQ_sQ, if_neg (fun y => er y.2), qQ_sQ, if_neg (by omega), qQ_sR, qQ_sR]
        exact R.lst r hr
    · unfold cut at hq
      by_cases er : r = r0
      · rw [if_pos er] at hq; cases hq
      · rw [if_neg er] at hq
        obtain ⟨v1, v2, v3⟩ := R.rqs r hr q hq
        have nq : ¬ q.1 = z := fun y => by
          have t1 := (R.tgr r hr q hq).1
          have t2 : tg z = r0 := tz
          rw [y] at t1
          omega
        have lq0 := (R.tgr r hr q hq).2.1
        refine ⟨v1.same (fun f z1 z2 z3 => ⟨?_, ?_⟩) ?_ ?_ (fun wd w1 w2 => ⟨?_, ?_, ?_, ?_⟩), v2, v3⟩
        · rw [qI_sQ, qI_sQ, qI_sR, qI_sR]
        · rw [qR_sQ, qR_sQ, qR_sR, if_neg (by omega), qR_sR, if_neg (fun y => nq y.2)]
        · rw [qQ_sQ, if_neg (by omega), qQ_sQ, if_neg (by omega), qQ_sR, qQ_sR]
        · rw [qQ_sQ, if_neg (by omega), qQ_sQ, if_neg (by omega), qQ_sR, qQ_sR]
        · rw [qT_sQ, qT_sQ, qT_sR, qT_sR]; exact w1
        · rw [qK_sQ, qK_sQ, qK_sR, qK_sR]; exact w2
        · rw [qI_sQ, qI_sQ, qI_sR, qI_sR]
        · rw [qI_sQ, qI_sQ, qI_sR, qI_sR]
    · unfold cut
      by_cases er : r = r0
      · rw [if_pos er]; exact List.nodup_nil
      · rw [if_neg er]; exact R.ndr r hr
    · unfold cut at hq
      by_cases er : r = r0
      · rw [if_pos er] at hq; cases hq
      · rw [if_neg er] at hq
        obtain ⟨t1, t2, t3⟩ := R.tgr r hr q hq
        dsimp only
        rw [qT_sQ, qT_sQ, qT_sR, qT_sR, if_neg (fun y => by have := (mem0 _ y).1; omega)]
        exact ⟨t1, t2, t3⟩
    · rw [qR_sQ, qR_sQ, qR_sR, if_pos ⟨rfl, rfl⟩]
      have f0 := R.fst r0 l64
      rw [el0] at f0 ⊢
      obtain ⟨q, f1, f2⟩ := Lnk_app.mp f0
      rw [List.append_assoc]
      refine Lnk_app.mpr ⟨q, f1.same fun a ha => ⟨by rw [qK_sQ, qK_sQ, qK_sR, qK_sR], ?_⟩, ?_⟩
      · rw [qR_sQ, qR_sQ, qR_sR, if_neg (fun y => by cases y.1), qR_sR, if_neg (fun y => nd0 (by rw [← y.2]; exact ha))]
      · obtain ⟨g1, g2, g3⟩ := f2
        refine ⟨g1, by rw [qK_sQ, qK_sQ, qK_sR, qK_sR]; exact g2, ?_⟩
        rw [qR_sQ, qR_sQ, qR_sR, if_neg (fun y => by cases y.1), qR_sR, if_pos ⟨rfl, rfl⟩]
        refine S.spr.same fun a ha => ⟨by rw [qK_sQ, qK_sQ, qK_sR, qK_sR], ?_⟩
        rw [qR_sQ, qR_sQ, qR_sR, if_neg (fun y => by cases y.1), qR_sR, if_neg (fun y => zsp a ha y.2)]
    · refine List.nodup_append.mpr ⟨R.ndr r0 l64, S.nds, fun a ha b hb e => ?_⟩
      have t1 := (mem0 a ha).1
      have t2 := (S.tgs b hb).1
      rw [e, t2] at t1
      omega
    · dsimp only
      rw [qT_sQ, qT_sQ, qT_sR, qT_sR]
      rcases List.mem_append.mp hc with y | y
      · rw [if_pos y]
        exact ⟨rfl, (mem0 c y).2⟩
      · by_cases w : c ∈ (Z r0).map Prod.fst
        · rw [if_pos w]
          exact ⟨rfl, (mem0 c w).2⟩
        · rw [if_neg w]
          exact S.tgs c y
theorem c_Pending_forget {F : Nat} {h : Hp} {x lo : Nat} {tg : Nat → Nat} {Z : RowT} {sp : List Nat} (hF : 40000 ≤ F) (C : Cd h x) (R : Rws h x lo tg Z) (S : Spr h x lo tg sp) (hx : x + 38 < hT h) (lx : x + 38 < lo) : ∃ k tg2 sp2, f_Pending_forget F (x + 8) h = some k ∧ Fr (PA x h) h k ∧ Rws k x lo tg2 (fun _ => []) ∧ Spr k x lo tg2 sp2 ∧ hI k 259 (x + 8) = 0 ∧ hT k = hT h ∧ hU k = hU h ∧ sp2.length = sp.length + sumL Z 64 := by
  have key : ∀ i, i ≤ 64 → ∃ k tg2 sp2 Y, f_Pending_forget F (x + 8) h = b_Pending_forget_2 F (F - i) (x + 8) (nI i) k ∧ Fr (PA x h) h k ∧ Rws k x lo tg2 Y ∧ Spr k x lo tg2 sp2 ∧ hT k = hT h ∧ hU k = hU h ∧ sp2.length = sp.length + sumL Z i ∧ (∀ r, r < i → Y r = []) ∧ ∀ r, i ≤ r → Y r = Z r := by
    intro i
    induction i with
    | zero =>
      intro _
      exact ⟨h, tg, sp, Z, by rw [nI_0]; rfl, Fr.refl h, R, S, rfl, rfl, rfl, fun r hr => by omega, fun _ _ => rfl⟩
    | succ i ih =>
      intro hi
      obtain ⟨k, tg2, sp2, Y, e1, A, R1, S1, t1, u1, l1, y1, y2⟩ := ih (by omega)
      have Ck : Cd k x := PM_cd C (PM.of A) hx
      obtain ⟨f, hf⟩ : ∃ f, F - i = f + 1 := ⟨F - i - 1, by omega⟩
      have hf2 : F - (i + 1) = f := by omega
      obtain ⟨k2, tg3, v1, v2, v3, v4, v5, v6⟩ := l_forget1 (F := F) (n := f) Ck R1 S1 (by omega) lx (show i < 64 by omega)
      refine ⟨k2, tg3, _, cut Y i [], by rw [hf2, e1, hf]; exact v1, PA.tr A v2, v3, v4, by omega, by omega, ?_, fun r hr => ?_, fun r hr => ?_⟩
      · rw [List.length_append, List.length_map, l1, y2 i (Nat.le_refl _)]
        show _ = sp.length + (sumL Z i + (Z i).length)
        omega
      · unfold cut
        by_cases z : r = i
        · rw [if_pos z]
        · rw [if_neg z]; exact y1 r (by omega)
      · unfold cut
        rw [if_neg (by omega)]
        exact y2 r (by omega)
  obtain ⟨k, tg2, sp2, Y, e1, A, R1, S1, t1, u1, l1, y1, y2⟩ := key 64 (Nat.le_refl _)
  have Ck : Cd k x := PM_cd C (PM.of A) hx
  obtain ⟨f, hf⟩ : ∃ f, F - 64 = f + 1 := ⟨F - 64 - 1, by omega⟩
  rw [hf, b_Pending_forget_2] at e1
  dsimp only at e1
  rw [if_pos (by decide), gd_t Ck.k_pending, pw_e] at e1
  have RY : Rws k x lo tg2 (fun _ => []) := ⟨fun r hr => by have := R1.fst r hr; rw [y1 r hr] at this; exact this, fun r hr => by have := R1.lst r hr; rw [y1 r hr] at this; exact this, (fun r hr q hq => by cases hq), fun r hr => List.nodup_nil, (fun r hr q hq => by cases hq)⟩
  refine ⟨_, tg2, sp2, e1, A.cI (Or.inr (Or.inr (Or.inl ⟨rfl, Or.inr rfl⟩))), ?_, S1.sa (qT_sI ..) (qK_sI ..) (qR_sI ..), by rw [qI_sI, if_pos ⟨rfl, rfl⟩], by rw [qT_sI]; exact t1, by rw [qU_sI]; exact u1, l1⟩
  refine RY.same (fun r hr => by rw [qQ_sI]; exact ⟨rfl, rfl⟩) (fun r hr q hq => by cases hq) (fun u j _ _ => by rw [qQ_sI]) (fun j => by rw [qQ_sI]) (fun wd w1 w2 => by
    rw [qT_sI, qK_sI, qI_sI, if_neg (fun z => by cases z.1), qI_sI, if_neg (fun z => by cases z.1)]
    exact ⟨w1, w2, rfl, rfl⟩)
