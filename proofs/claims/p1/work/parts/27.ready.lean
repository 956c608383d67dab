/-! readiness: the class's, the reference's, and that they are one -/
/-- the reference's frame: fields I of its cell, arrays A -/
def Rf (m : Nat) (I A : Nat → Prop) (h k : Hp) : Prop := (hT k = hT h ∧ hU k = hU h ∧ hK k = hK h ∧ hN k = hN h ∧ hR k = hR h ∧ hQ k = hQ h ∧ hL k = hL h) ∧ (∀ f a, ¬ (a = m ∧ I f) → hI k f a = hI h f a) ∧ (∀ a j, ¬ A a → hA k a j = hA h a j)
theorem Rf.refl {m : Nat} {I A : Nat → Prop} (h : Hp) : Rf m I A h h := ⟨⟨rfl, rfl, rfl, rfl, rfl, rfl, rfl⟩, fun _ _ _ => rfl, fun _ _ _ => rfl⟩
theorem Rf.trans {m : Nat} {I A : Nat → Prop} {h k l : Hp} (X : Rf m I A h k) (Y : Rf m I A k l) : Rf m I A h l := by
  obtain ⟨⟨a1, a2, a3, a4, a5, a6, a7⟩, a8, a9⟩ := X
  obtain ⟨⟨b1, b2, b3, b4, b5, b6, b7⟩, b8, b9⟩ := Y
  exact ⟨⟨b1.trans a1, b2.trans a2, b3.trans a3, b4.trans a4, b5.trans a5, b6.trans a6, b7.trans a7⟩, fun f a q => (b8 f a q).trans (a8 f a q), fun a j q => (b9 a j q).trans (a9 a j q)⟩
theorem Rf.mono {m : Nat} {I A J B : Nat → Prop} {h k : Hp} (X : Rf m I A h k) (e1 : ∀ f, I f → J f) (e2 : ∀ a, A a → B a) : Rf m J B h k := ⟨X.1, fun f a q => X.2.1 f a (fun z => q ⟨z.1, e1 f z.2⟩), fun a j q => X.2.2 a j (fun z => q (e2 a z))⟩
theorem Rf.cI {m : Nat} {I A : Nat → Prop} {h k : Hp} (X : Rf m I A h k) {f : Nat} {v : Int32} (p : I f) : Rf m I A h (sI k f m v) := by
  obtain ⟨a1, a8, a9⟩ := X
  refine ⟨a1, fun g a q => ?_, a9⟩
  rw [qI_sI, if_neg (fun z => q ⟨z.2, by rw [z.1]; exact p⟩)]
  exact a8 g a q
theorem Rf.cA {m : Nat} {I A : Nat → Prop} {h k : Hp} (X : Rf m I A h k) {a j : Nat} {v : Int32} (p : A a) : Rf m I A h (sA k a j v) := by
  obtain ⟨a1, a8, a9⟩ := X
  refine ⟨a1, a8, fun b l q => ?_⟩
  rw [qA_sA, if_neg (fun z => q (by rw [z.1]; exact p))]
  exact a9 b l q
theorem Rf.cO {m : Nat} {I A : Nat → Prop} {h k : Hp} (X : Rf m I A h k) {g : Nat → Nat → Int32} (p : ∀ a, ¬ A a → ∀ j, g a j = hA k a j) : Rf m I A h (oA k g) := by
  obtain ⟨a1, a8, a9⟩ := X
  refine ⟨a1, a8, fun b l q => ?_⟩
  rw [qA_oA, p b q l]
  exact a9 b l q
theorem Rf.cf {m : Nat} {I A : Nat → Prop} {h k : Hp} (X : Rf m I A h k) {a c d : Nat} {f : Nat → Int32} (p : A a) : Rf m I A h (oA k (fr (hA k) a c d f)) := X.cO fun b q j => fr_o (fun e => q (by rw [e]; exact p))
theorem Rf.cx {m : Nat} {I A : Nat → Prop} {h k : Hp} (X : Rf m I A h k) {a c d n : Nat} {Q : Nat → Bool} {f : Nat → Int32} (p : A a) : Rf m I A h (oA k (fx (hA k) a c d n Q f)) := X.cO fun b q j => fx_o (fun e => q (by rw [e]; exact p))
theorem Rf.md {m : Nat} {I A : Nat → Prop} {h k : Hp} (X : Rf m I A h k) (M : Md h m) : Md k m := M.same X.1.2.2.1 X.1.2.2.2.1 X.1.2.2.2.2.1
abbrev Scr (m : Nat) (h k : Hp) : Prop := Rf m (fun f => 756 ≤ f ∧ f ≤ 762) (fun a => (m + 25) ≤ a ∧ a ≤ (m + 28)) h k
theorem Rf.i {m : Nat} {I A : Nat → Prop} {h k : Hp} (X : Rf m I A h k) {f : Nat} (q : ¬ I f) : hI k f m = hI h f m := X.2.1 f m (fun z => q z.2)
theorem Rf.a {m : Nat} {I A : Nat → Prop} {h k : Hp} (X : Rf m I A h k) {a : Nat} (q : ¬ A a) (j : Nat) : hA k a j = hA h a j := X.2.2 a j q
/-- the class's -/
def cRdy (h : Hp) (u w : Nat) (c : Int32) : Prop := ¬ hI h 518 w = 0 ∧ hI h 521 w ≤ c ∧ ∀ a, hR h 520 w = some a → (hI h 584 a = 0 ∨ ¬ c < hI h 390 u) ∧ (hI h 586 a = 0 ∨ ¬ c < hI h 391 u)
theorem c_Unit_isReady {F : Nat} {h : Hp} {u w : Nat} {c : Int32} (kw : hK h w = 9) (ku : hK h u = 7) (hw : ∀ a, hR h 520 w = some a → hK h a = 10) : ∃ v, f_Unit_isReady F u (some w) c h = some (v, h) ∧ ((v = 1 ∧ cRdy h u w c) ∨ (v = 0 ∧ ¬ cRdy h u w c)) := by
  simp only [f_Unit_isReady, b_Unit_isReady_43, b_Unit_isReady_58, pw, gd, rq_i, Bool.false_eq_true, eq_self, or_false, false_or, or_true, true_or, and_true, true_and, and_false, false_and, not_true_eq_false, not_false_eq_true, nu_none, nu_some, cl_some, clv_some, qK_sI, qK_sA, qK_sL, qR_sI, qR_sA, qR_sL, qN_sI, qN_sA, qN_sL, qK_oA, qR_oA, qN_oA, qI_oA, qI_sA, qI_sL, qL_sA, qL_sI, qL_oA, qA_sI, qA_sL, qA_oA, if_true, if_false, reduceIte, ixn, nI_add, nI_1, n_4, n_8, n_16, n_20, n_32, n_64, n_128, i_0, kw, ku]
  by_cases c1 : hI h 518 w = 0
  · rw [if_pos c1]
    exact ⟨0, rfl, Or.inr ⟨rfl, fun z => z.1 c1⟩⟩
  · rw [if_neg c1]
    by_cases c2 : hI h 521 w ≤ c
    · rw [if_pos c2]
      cases e : hR h 520 w with
      | none => exact ⟨1, rfl, Or.inl ⟨rfl, c1, c2, fun a q => by rw [e] at q; cases q⟩⟩
      | some a =>
        have ka := hw a e
        simp only [nu_some, ka, if_true, reduceIte]
        have fin : ∀ p : Prop, (p ↔ ((hI h 584 a = 0 ∨ ¬ c < hI h 390 u) ∧ (hI h 586 a = 0 ∨ ¬ c < hI h 391 u))) → (p ↔ cRdy h u w c) := by
          intro p hp
          rw [hp]
          constructor
          · intro z
            exact ⟨c1, c2, fun b q => by rw [e] at q; cases q; exact z⟩
          · intro z
            exact z.2.2 a e
        by_cases c3 : hI h 584 a = 0
        · rw [if_pos c3]
          by_cases c4 : hI h 586 a = 0
          · rw [if_pos c4]
            exact ⟨1, rfl, Or.inl ⟨rfl, (fin True (by simp [c3, c4])).mp trivial⟩⟩
          · rw [if_neg c4]
            by_cases c5 : c < hI h 391 u
            · rw [if_pos c5]
              exact ⟨0, rfl, Or.inr ⟨rfl, fun z => (fin False (by simp only [c3, c4, c5, Bool.false_eq_true, if_true, if_false, reduceIte, or_false, false_or, or_true, true_or, and_true, true_and, and_false, false_and, not_true_eq_false, not_false_eq_true, or_self, and_self])).mpr z⟩⟩
            · rw [if_neg c5]
              exact ⟨1, rfl, Or.inl ⟨rfl, (fin True (by simp only [c3, c4, c5, Bool.false_eq_true, if_true, if_false, reduceIte, or_false, false_or, or_true, true_or, and_true, true_and, and_false, false_and, not_true_eq_false, not_false_eq_true, or_self, and_self])).mp trivial⟩⟩
        · rw [if_neg c3]
          by_cases c6 : c < hI h 390 u
          · rw [if_pos c6]
            exact ⟨0, rfl, Or.inr ⟨rfl, fun z => (fin False (by simp only [c3, c6, Bool.false_eq_true, if_true, if_false, reduceIte, or_false, false_or, or_true, true_or, and_true, true_and, and_false, false_and, not_true_eq_false, not_false_eq_true, or_self, and_self])).mpr z⟩⟩
          · rw [if_neg c6]
            by_cases c4 : hI h 586 a = 0
            · rw [if_pos c4]
              exact ⟨1, rfl, Or.inl ⟨rfl, (fin True (by simp only [c3, c6, c4, Bool.false_eq_true, if_true, if_false, reduceIte, or_false, false_or, or_true, true_or, and_true, true_and, and_false, false_and, not_true_eq_false, not_false_eq_true, or_self, and_self])).mp trivial⟩⟩
            · rw [if_neg c4]
              by_cases c5 : c < hI h 391 u
              · rw [if_pos c5]
                exact ⟨0, rfl, Or.inr ⟨rfl, fun z => (fin False (by simp only [c3, c6, c4, c5, Bool.false_eq_true, if_true, if_false, reduceIte, or_false, false_or, or_true, true_or, and_true, true_and, and_false, false_and, not_true_eq_false, not_false_eq_true, or_self, and_self])).mpr z⟩⟩
              · rw [if_neg c5]
                exact ⟨1, rfl, Or.inl ⟨rfl, (fin True (by simp only [c3, c6, c4, c5, Bool.false_eq_true, if_true, if_false, reduceIte, or_false, false_or, or_true, true_or, and_true, true_and, and_false, false_and, not_true_eq_false, not_false_eq_true, or_self, and_self])).mp trivial⟩⟩
    · rw [if_neg c2]
      exact ⟨0, rfl, Or.inr ⟨rfl, fun z => c2 z.2.1⟩⟩
/-- the reference's -/
def rOk2 (h : Hp) (m u s : Nat) (w : Int64) : Prop := kAll w (rT h m s) ∧ (¬ (wOp w = 7 ∨ wOp w = 8) ∨ ¬ hI h 719 m < hA h (m + 5) u) ∧ (¬ (kMem (wOp w) ∨ wOp w = 0 ∨ wOp w = 1) ∨ ¬ hI h 719 m < hA h (m + 11) s) ∧ (¬ kSh (wOp w) ∨ ¬ hI h 719 m < hA h (m + 6) u)
def rRdy (h : Hp) (m u s ln : Nat) : Prop := ¬ hA h (m + 9) s = -1 ∧ ∃ p, lp (aA h m s) (aP h m s) ln = some p ∧ (p < 0 ∨ 128 ≤ p ∨ ¬ kKnown (wOp (hL h (m + 1) p.toNatClampNeg)) (wN (hL h (m + 1) p.toNatClampNeg)) ∨ rOk2 h m u s (hL h (m + 1) p.toNatClampNeg))
theorem rTake_r (h : Hp) (m : Nat) (w : Int64) : hI (rTake h m w) 756 m = wOp w ∧ hI (rTake h m w) 757 m = wD w ∧ hI (rTake h m w) 758 m = wA w ∧ hI (rTake h m w) 759 m = wB w ∧ hI (rTake h m w) 760 m = wG w ∧ hI (rTake h m w) 761 m = wN w := by
  unfold rTake
  generalize wOp w = o
  generalize wD w = d
  generalize wA w = a
  generalize wB w = b
  generalize wG w = g
  generalize wN w = n
  simp only [qI_sI, Nat.reduceEqDiff, and_self, and_true, true_and, false_and, and_false, if_true, if_false, reduceIte]
theorem rTake_f (h : Hp) (m : Nat) (w : Int64) : Scr m h (rTake h m w) := by
  unfold rTake
  exact ((((((Rf.refl h).cI (by decide)).cI (by decide)).cI (by decide)).cI (by decide)).cI (by decide)).cI (by decide)
theorem rRd_iff {h k : Hp} {m u s : Nat} {w : Int64} (S : Scr m h k) (e1 : hI k 756 m = wOp w) (e2 : hI k 757 m = wD w) (e3 : hI k 758 m = wA w) (e4 : hI k 759 m = wB w) (e5 : hI k 760 m = wG w) (e6 : hI k 761 m = wN w) : rRd k m u s (nD w) (nB w) (nA w) ↔ rOk2 h m u s w := by
  unfold rOk2 kAll rRd rd10 rd9 rd8 rd7 rd6 rd5 rd4 rd3 rd2 rd1 rP rT
  rw [e1, e2, e3, e4, e5, e6, S.i (f := 719) (by decide)]
  simp only [S.a (a := (m + 12)) (by omega), S.a (a := (m + 5)) (by omega), S.a (a := (m + 11)) (by omega), S.a (a := (m + 6)) (by omega), and_assoc]
theorem gG_n {h : Hp} {m s ln i : Nat} : ¬ gG h m s ln i = 0 ↔ gB1 (aA h m s) (aP h m s) ln i = true := by
  unfold gG
  rw [bI_0]
  simp
theorem first_ex {A : Nat → Bool} {p : Nat → Int32} {n : Nat} {v : Int32} (e : lp A p n = some v) : ∃ i, i < n ∧ gB1 A p n i = true ∧ p i = v ∧ ∀ j, j < i → gB1 A p n j = false := by
  obtain ⟨⟨i0, h1, h2, h3⟩, -⟩ := lp_some A p n v e
  obtain ⟨i, q1, q2⟩ := pk_least (fun k => gB1 A p n k = true) ⟨i0, by unfold gB1; rw [h2, e, h3]; simp⟩
  have hi : i ≤ i0 := Nat.not_lt.mp fun z => q2 i0 z (by unfold gB1; rw [h2, e, h3]; simp)
  refine ⟨i, by omega, q1, ?_, fun j hj => by simpa using q2 j hj⟩
  unfold gB1 at q1
  rw [e] at q1
  simp at q1
  exact q1.2.symm
theorem c_Mod_isReady {F : Nat} {h : Hp} {m u s ln : Nat} (M : Md h m) (hF : 40000 ≤ F) (hs : s < 128) (hu : u < 8) (hl : hI h 705 m = nI ln) (l32 : ln ≤ 32) : ∃ v k, f_Mod_isReady F m (nI u) (nI s) h = some (v, k) ∧ ((v = 1 ∧ rRdy h m u s ln) ∨ (v = 0 ∧ ¬ rRdy h m u s ln)) ∧ Scr m h k ∧ (v = 1 → ∀ i, i < 32 → hA k (m + 26) i = gG h m s ln i) := by
  have cg := c_Mod_group (F := F) M hF hs hl l32
  have k0 : hA h (m + 9) s = -1 → f_Mod_isReady F m (nI u) (nI s) h = some (0, h) := fun e => by
    rw [f_Mod_isReady, gd_t M.k, rq_k M.r_slotBlock M.k_slotBlock, M.n_slotBlock, ixn hs (by decide), if_pos e]
  by_cases c0 : hA h (m + 9) s = -1
  · exact ⟨0, h, k0 c0, Or.inr ⟨rfl, fun z => z.1 c0⟩, Rf.refl h, fun z => by cases z⟩
  · have S1 : Scr m h (oA h (fr (hA h) (m + 26) 0 32 (gG h m s ln))) := (Rf.refl h).cf (by omega)
    have M1 : Md (oA h (fr (hA h) (m + 26) 0 32 (gG h m s ln))) m := M.toA
    have g1 : ∀ i, i < 32 → hA (oA h (fr (hA h) (m + 26) 0 32 (gG h m s ln))) (m + 26) i = gG h m s ln i := fun i hi => by rw [qA_oA, fr_i (by omega) hi]
    have p1 : ∀ j, hA (oA h (fr (hA h) (m + 26) 0 32 (gG h m s ln))) (m + 15) j = hA h (m + 15) j := fun j => by rw [qA_oA, fr_o (by omega)]
    have L1 : hL (oA h (fr (hA h) (m + 26) 0 32 (gG h m s ln))) = hL h := qL_oA _ _
    generalize oA h (fr (hA h) (m + 26) 0 32 (gG h m s ln)) = h1 at *
    cases e : lp (aA h m s) (aP h m s) ln with
    | none =>
      rw [e] at cg
      refine ⟨0, h1, ?_, Or.inr ⟨rfl, fun z => ?_⟩, S1, fun z => by cases z⟩
      · rw [f_Mod_isReady, gd_t M.k, rq_k M.r_slotBlock M.k_slotBlock, M.n_slotBlock, ixn hs (by decide), if_neg c0, cg, cl_some, bI_f (by simp), if_pos rfl]
      · obtain ⟨p, q, -⟩ := z.2
        rw [e] at q
        cases q
    | some p =>
      rw [e, bI_t (by simp)] at cg
      obtain ⟨i, hi, q1, q2, q3⟩ := first_ex e
      have cf := c_Mod_firstOfGroup (F := F) (i := i) M1 hF (by omega) (by rw [g1 i (by omega)]; exact gG_n.mpr q1) (fun j hj => by
        rw [g1 j (by omega)]
        exact Classical.byContradiction fun z => by have := gG_n.mp z; rw [q3 j hj] at this; cases this)
      have q4 : hA h (m + 15) (32 * s + i) = p := q2
      have st : f_Mod_isReady F m (nI u) (nI s) h = if p < 0 then some (1, h1) else if p < 128 then (ix p 128 fun j => clv (f_Mod_take F m (hL h1 (m + 1) j) h1) fun h_54 => gd (hK h_54 m = 12) <| cl (f_Mod_isWord F m h_54) fun v_58_2 h_58_2 => if v_58_2 = 0 then (some ((1 : Int32), h_58_2)) else (gd (hK h_58_2 m = 12) <| if (hI h_58_2 760 m) < (8 : Int32) then (b_Mod_isReady_87 F m (nI u) (nI s) h_58_2) else (cl (f_Mod_isPredicateThere F m (nI s) (hI h_58_2 760 m) h_58_2) fun v_81 h_81 => if v_81 = 0 then (b_Mod_isReady_92 F m (nI u) (nI s) (0 : Int32) h_81) else (b_Mod_isReady_87 F m (nI u) (nI s) h_81)))) else some (1, h1) := by
        rw [f_Mod_isReady, gd_t M.k, rq_k M.r_slotBlock M.k_slotBlock, M.n_slotBlock, ixn hs (by decide), if_neg c0, cg, cl_some, if_neg (by decide), gd_t M1.k, rq_k M1.r_place M1.k_place, cf, cl_some, c_Mod_thread, cl_some, gd_t M1.k_place, M1.n_place, ixn (by omega) (by decide), p1, q4, gd_t M1.k, rq_k M1.r_kernel M1.k_kernel, M1.n_kernel]
      rw [st]
      by_cases c1 : p < 0
      · exact ⟨1, h1, if_pos c1, Or.inl ⟨rfl, c0, p, e, Or.inl c1⟩, S1, fun _ => g1⟩
      · rw [if_neg c1]
        by_cases c2 : p < 128
        · have vi : vp_in p 128 := vin_lt (m := 128) (by decide) c1 c2
          have n128 : ¬ (128 : Int32) ≤ p := Int32.not_le.mpr c2
          rw [if_pos c2, ixv vi, L1]
          generalize hw : hL h (m + 1) p.toNatClampNeg = w
          rw [c_Mod_take M1.k, clv_some]
          have S2 : Scr m h (rTake h1 m w) := S1.trans (rTake_f h1 m w)
          have M2 : Md (rTake h1 m w) m := S2.md M
          obtain ⟨t1, t2, t3, t4, t5, t6⟩ := rTake_r h1 m w
          have g2 : ∀ i, i < 32 → hA (rTake h1 m w) (m + 26) i = gG h m s ln i := fun i hi => by
            rw [← g1 i hi]
            unfold rTake
            simp only [qA_sI]
          generalize rTake h1 m w = h2 at *
          rw [gd_t M2.k, c_Mod_isWord M2.k, t1, t6, cl_some]
          by_cases c3 : kKnown (wOp w) (wN w)
          · have rr := rRd_iff (u := u) (s := s) S2 t1 t2 t3 t4 t5 t6
            obtain ⟨z0, v, z1, zv⟩ := rb_92 (F := F) M2 hs hu (by rw [t2, nD_is]) (nD_lt w) (by rw [t4, nB_is]) (nB_lt w) (by rw [t3, nA_is]) (nA_lt w)
            rw [bI_t c3, if_neg (by decide), gd_t M2.k]
            have lf : ∀ v : Int32, ((v = 1 ∧ rRd h2 m u s (nD w) (nB w) (nA w)) ∨ (v = 0 ∧ ¬ rRd h2 m u s (nD w) (nB w) (nA w))) → ((v = 1 ∧ rRdy h m u s ln) ∨ (v = 0 ∧ ¬ rRdy h m u s ln)) := by
              intro v z
              refine z.imp (fun y => ⟨y.1, c0, p, e, Or.inr (Or.inr (Or.inr ?_))⟩) (fun y => ⟨y.1, fun x => y.2 (rr.mpr ?_)⟩)
              · rw [hw]
                exact rr.mp y.2
              · obtain ⟨p', f1, f2⟩ := x.2
                rw [e] at f1
                cases f1
                rw [hw] at f2
                rcases f2 with f2 | f2 | f2 | f2
                · exact absurd f2 c1
                · exact absurd f2 n128
                · exact absurd c3 f2
                · exact f2
            by_cases c4 : wG w < 8
            · rw [t5, if_pos c4, b_Mod_isReady_87]
              exact ⟨v, h2, z1, lf v (zv.imp (fun y => ⟨y.1, Or.inl (by rw [t5]; exact c4), y.2⟩) (fun y => ⟨y.1, fun x => y.2 x.2⟩)), S2, fun _ => g2⟩
            · rw [t5, if_neg c4, c_Mod_isPredicateThere M2 hs, cl_some, bI_ite]
              by_cases c5 : rT h2 m s (16 + pn (wG w))
              · rw [if_pos c5, b_Mod_isReady_87]
                exact ⟨v, h2, z1, lf v (zv.imp (fun y => ⟨y.1, Or.inr (by rw [t5]; exact c5), y.2⟩) (fun y => ⟨y.1, fun x => y.2 x.2⟩)), S2, fun _ => g2⟩
              · rw [if_neg c5]
                exact ⟨0, h2, z0, lf 0 (Or.inr ⟨rfl, fun x => x.1.elim (by rw [t5]; exact c4) (by rw [t5]; exact c5)⟩), S2, fun z => by cases z⟩
          · rw [bI_f c3, if_pos rfl]
            exact ⟨1, h2, rfl, Or.inl ⟨rfl, c0, p, e, Or.inr (Or.inr (Or.inl (by rw [hw]; exact c3)))⟩, S2, fun _ => g2⟩
        · rw [if_neg c2]
          exact ⟨1, h1, rfl, Or.inl ⟨rfl, c0, p, e, Or.inr (Or.inl (Int32.not_lt.mp c2))⟩, S1, fun _ => g1⟩
/-- they are one -/
theorem unk (o n : Int32) (h : ¬ kKnown o n) : ¬ (o = 7 ∨ o = 8) ∧ ¬ kSh o ∧ ¬ kWM o := by
  unfold kKnown at h
  unfold kSh kWM kMem
  simp only [Int32.lt_iff_toInt_lt, Int32.le_iff_toInt_le, ← Int32.toInt_inj] at *
  simp only [show (0 : Int32).toInt = 0 by decide, show (1 : Int32).toInt = 1 by decide, show (3 : Int32).toInt = 3 by decide, show (6 : Int32).toInt = 6 by decide, show (7 : Int32).toInt = 7 by decide, show (8 : Int32).toInt = 8 by decide, show (21 : Int32).toInt = 21 by decide, show (30 : Int32).toInt = 30 by decide, show (36 : Int32).toInt = 36 by decide, show (40 : Int32).toInt = 40 by decide, show (42 : Int32).toInt = 42 by decide, show (50 : Int32).toInt = 50 by decide, show (52 : Int32).toInt = 52 by decide, show (53 : Int32).toInt = 53 by decide, show (58 : Int32).toInt = 58 by decide, show (59 : Int32).toInt = 59 by decide, show (70 : Int32).toInt = 70 by decide, show (73 : Int32).toInt = 73 by decide] at *
  omega
theorem ready_iff {hc hr : Hp} {x m s u ln b w rg pl pr ti L bl : Nat} {c : Int32} (B : Wb hc hr x m s ln b w rg pl pr ti L bl) (G : Gt hc hr x m s ln w ti) (K : Kn hc hr x m) (l32 : ln ≤ 32) (hcy : hI hr 719 m = c) (c0 : 0 ≤ c) (ud : hI hc 390 (x + 15 + 3 * u) = hA hr (m + 5) u) (us : hI hc 391 (x + 15 + 3 * u) = hA hr (m + 6) u) : cRdy hc (x + 15 + 3 * u) w c ↔ rRdy hr m u s ln := by
  have nb : ¬ hA hr (m + 9) s = -1 := by
    rw [B.sb]
    exact nI_m1 (by have := B.b64; omega)
  unfold cRdy rRdy
  rw [G.grp, G.rdy, G.wrd, ud, us]
  cases e : lp (aA hr m s) (aP hr m s) ln with
  | none =>
    have z := (gmk_0 (A := aA hr m s) (p := aP hr m s) l32).mpr e
    constructor
    · intro y
      exact absurd z y.1
    · intro y
      obtain ⟨p, q, -⟩ := y.2
      cases q
  | some p =>
    have z : ¬ gmk (aA hr m s) (aP hr m s) ln = 0 := fun y => by
      have := (gmk_0 (A := aA hr m s) (p := aP hr m s) l32).mp y
      rw [e] at this
      cases this
    have ep : gpl (aA hr m s) (aP hr m s) ln = p := by unfold gpl; rw [e]; rfl
    rw [ep]
    by_cases cp : p < 0 ∨ 128 ≤ p
    · have eo : gaW hc (x + 2) p = none := if_pos cp
      rw [eo]
      constructor
      · intro _
        exact ⟨nb, p, rfl, cp.elim Or.inl (fun q => Or.inr (Or.inl q))⟩
      · intro _
        exact ⟨z, c0, fun a q => by cases q⟩
    · have n0 : ¬ p < 0 := fun q => cp (Or.inl q)
      have n1 : ¬ 128 ≤ p := fun q => cp (Or.inr q)
      have vi : vp_in p 128 := vin_of (m := 128) (by decide) n0 n1
      have hj : p.toNatClampNeg < 128 := Nat.not_le.mp fun q => vi (Or.inr q)
      obtain ⟨y, e1, -, Wd⟩ := K _ hj
      have eo : gaW hc (x + 2) p = some y := by unfold gaW; rw [if_neg cp]; exact e1
      rw [eo]
      have hd : (∀ a, some y = some a → (hI hc 584 a = 0 ∨ ¬ c < hA hr (m + 5) u) ∧ (hI hc 586 a = 0 ∨ ¬ c < hA hr (m + 6) u)) ↔ ((¬ (wOp (hL hr (m + 1) p.toNatClampNeg) = 7 ∨ wOp (hL hr (m + 1) p.toNatClampNeg) = 8) ∨ ¬ c < hA hr (m + 5) u) ∧ (¬ kSh (wOp (hL hr (m + 1) p.toNatClampNeg)) ∨ ¬ c < hA hr (m + 6) u)) := by
        constructor
        · intro H
          have := H y rfl
          rw [Wd.divides, Wd.usesShared, bI_0, bI_0] at this
          exact this
        · intro H a q
          cases q
          rw [Wd.divides, Wd.usesShared, bI_0, bI_0]
          exact H
      rw [hd]
      have hr2 : gaT hc w ti (some y) ≤ c ↔ ((¬ kWM (wOp (hL hr (m + 1) p.toNatClampNeg)) ∨ hA hr (m + 11) s ≤ c) ∧ ∀ k, k < 20 → bt (hI hc 589 y) k = true → hA hr (m + 12) (20 * s + k) ≤ c) := by
        unfold gaT
        simp only
        rw [tkm_le, Wd.waitsForMemory, B.mem]
        refine and_congr ?_ ?_
        · by_cases q : kWM (wOp (hL hr (m + 1) p.toNatClampNeg))
          · rw [bI_t q, if_neg (by decide)]
            exact ⟨Or.inr, fun y => y.resolve_left (fun n => n q)⟩
          · rw [bI_f q, if_pos rfl]
            exact ⟨fun _ => Or.inl q, fun _ => c0⟩
        · constructor
          · intro H k hk bk
            rw [← B.tic k hk]
            exact H k hk bk
          · intro H k hk bk
            rw [B.tic k hk]
            exact H k hk bk
      rw [hr2]
      by_cases kn : kKnown (wOp (hL hr (m + 1) p.toNatClampNeg)) (wN (hL hr (m + 1) p.toNatClampNeg))
      · have en : hI hc 589 y = kNd (wOp (hL hr (m + 1) p.toNatClampNeg)) (wA (hL hr (m + 1) p.toNatClampNeg)) (wB (hL hr (m + 1) p.toNatClampNeg)) (wN (hL hr (m + 1) p.toNatClampNeg)) (kWr (wOp (hL hr (m + 1) p.toNatClampNeg)) (wD (hL hr (m + 1) p.toNatClampNeg))) (kGu (hL hr (m + 1) p.toNatClampNeg)) 1 := by rw [Wd.needed, bI_t kn]
        rw [en, need_iff (hL hr (m + 1) p.toNatClampNeg) (fun k => hA hr (m + 12) (20 * s + k) ≤ c)]
        have kk : kAll (hL hr (m + 1) p.toNatClampNeg) (fun k => hA hr (m + 12) (20 * s + k) ≤ c) ↔ kAll (hL hr (m + 1) p.toNatClampNeg) (rT hr m s) := by
          have : (fun k => hA hr (m + 12) (20 * s + k) ≤ c) = rT hr m s := by
            funext k
            unfold rT
            rw [hcy]
            exact propext Int32.not_lt.symm
          rw [this]
        rw [kk]
        constructor
        · intro ⟨_, ⟨h1, h2⟩, h3, h4⟩
          refine ⟨nb, p, rfl, Or.inr (Or.inr (Or.inr ⟨h2, by rw [hcy]; exact h3, ?_, by rw [hcy]; exact h4⟩))⟩
          refine h1.imp (fun n q => n ?_) (fun q => by rw [hcy]; exact Int32.not_lt.mpr q)
          rcases q with q | q | q
          · exact Or.inr (Or.inr q)
          · exact Or.inl q
          · exact Or.inr (Or.inl q)
        · intro ⟨_, p', f1, f2⟩
          cases f1
          rcases f2 with f2 | f2 | f2 | f2
          · exact absurd f2 n0
          · exact absurd f2 n1
          · exact absurd kn f2
          · obtain ⟨g1, g2, g3, g4⟩ := f2
            rw [hcy] at g2 g3 g4
            refine ⟨z, ⟨g3.imp (fun n q => n ?_) (fun q => Int32.not_lt.mp q), g1⟩, g2, g4⟩
            rcases q with q | q | q
            · exact Or.inr (Or.inl q)
            · exact Or.inr (Or.inr q)
            · exact Or.inl q
      · obtain ⟨u1, u2, u3⟩ := unk _ _ kn
        have en : hI hc 589 y = 0 := by rw [Wd.needed, bI_f kn]; rfl
        constructor
        · intro _
          exact ⟨nb, p, rfl, Or.inr (Or.inr (Or.inl kn))⟩
        · intro _
          exact ⟨z, ⟨Or.inl u3, fun k _ bk => by rw [en, b_0] at bk; cases bk⟩, Or.inl u1, Or.inl u2⟩
