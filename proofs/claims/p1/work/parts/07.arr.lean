/-- one array's cell has changed -/
theorem Rp.arr {G : Gl} {h h2 : Hp} {H H2 : Heap} (hR : Rp G h H) {a : Nat} (hka : 100 ≤ hK h a) (e1 : hT h2 = hT h) (e2 : hK h2 = hK h) (e3 : hN h2 = hN h) (e5 : ∀ ty off b, oV h2 ty off b = oV h ty off b) (e4 : ∀ kd b, b ≠ a → eV h2 kd b = eV h kd b)
    (z : H2.size = H.size) (o : ∀ q : Nat, q ≠ a → H2[q]? = H[q]?) (hc : H2[a]? = some (arrV (G.2.2.2.1 (hK h a)) (hN h a) (eV h2 (hK h a) a))) : Rp G h2 H2 := by
  obtain ⟨r1, r2, r3, r4, r5⟩ := hR
  obtain ⟨b1, b2, -⟩ := r5 a hka
  refine ⟨by rw [e1, z]; exact r1, by rw [e1]; exact r2, fun q hq => by rw [o q (by omega)]; exact r3 q hq, fun b cj hb hj => ?_, fun b hb => ?_⟩
  · rw [e2] at hb
    rw [e1]
    have hab : b ≠ a := fun q => by subst q; omega
    obtain ⟨c1, c2, r', c3, c4⟩ := r4 b cj hb hj
    exact ⟨c1, c2, r', c3, by rw [e5]; exact c4.kept (o b hab)⟩
  · rw [e2] at hb
    rw [e1, e2, e3]
    by_cases hab : b = a
    · subst hab
      exact ⟨b1, b2, hc⟩
    · obtain ⟨c1, c2, c3⟩ := r5 b hb
      exact ⟨c1, c2, by rw [o b hab, e4 _ b hab]; exact c3⟩
theorem g_iald {G : Gl} {mi : MI} {h0 h : Hp} {P : Option Value → Hp → Prop} {pc : Nat} {L : List (Nat × Value)} {st : List Value} {i : Int32} {a : Nat} (hka : hK h a = 100) (hin : vp_in i (hN h a)) (hd : decode mi.2.1 pc = .ok (.iaload, 1)) (k : Go G mi h0 P h (pc + 1) L (.int (hA h a i.toNatClampNeg) :: st)) : Go G mi h0 P h pc L (.int i :: .ref a :: st) := by
  refine Go.pure (fun p e R s m args below meth c Q H locs cells slots ls hC hR hl kk => ?_) k
  obtain ⟨-, -, hcell⟩ := hR.2.2.2.2 a (by omega)
  rw [hka] at hcell
  have hlt : i.toNatClampNeg < hN h a := Nat.not_le.mp fun q => hin (Or.inr q)
  exact W.iald (v := .int (hA h a i.toNatClampNeg)) hC.1 hC.2.1 hcell ((hC.2.2.2.2.2.2.2.2.2.1 100 .int rfl).1 _ _) (fun q => by cases q) (by show ¬ (i < 0 ∨ (arrV _ _ _).slots.size ≤ _); rw [arrV_size]; exact hin) (by show (arrV _ _ _).slots[_]? = _; rw [arrV_read _ _ hlt]; rfl) rfl rfl hd (kk ls hl)
theorem g_zald {G : Gl} {mi : MI} {h0 h : Hp} {P : Option Value → Hp → Prop} {pc : Nat} {L : List (Nat × Value)} {st : List Value} {i : Int32} {a : Nat} (hka : hK h a = 101) (hin : vp_in i (hN h a)) (hd : decode mi.2.1 pc = .ok (.baload, 1)) (k : Go G mi h0 P h (pc + 1) L (.int (hA h a i.toNatClampNeg) :: st)) : Go G mi h0 P h pc L (.int i :: .ref a :: st) := by
  refine Go.pure (fun p e R s m args below meth c Q H locs cells slots ls hC hR hl kk => ?_) k
  obtain ⟨-, -, hcell⟩ := hR.2.2.2.2 a (by omega)
  rw [hka] at hcell
  have hlt : i.toNatClampNeg < hN h a := Nat.not_le.mp fun q => hin (Or.inr q)
  exact W.zald (v := .int (hA h a i.toNatClampNeg)) hC.1 hC.2.1 hcell ((hC.2.2.2.2.2.2.2.2.2.1 101 .boolean rfl).1 _ _) (fun q => by cases q) (by show ¬ (i < 0 ∨ (arrV _ _ _).slots.size ≤ _); rw [arrV_size]; exact hin) (by show (arrV _ _ _).slots[_]? = _; rw [arrV_read _ _ hlt]; rfl) rfl rfl hd (kk ls hl)
theorem g_lald {G : Gl} {mi : MI} {h0 h : Hp} {P : Option Value → Hp → Prop} {pc : Nat} {L : List (Nat × Value)} {st : List Value} {i : Int32} {a : Nat} (hka : hK h a = 110) (hin : vp_in i (hN h a)) (hd : decode mi.2.1 pc = .ok (.laload, 1)) (k : Go G mi h0 P h (pc + 1) L (.long (hL h a i.toNatClampNeg) :: st)) : Go G mi h0 P h pc L (.int i :: .ref a :: st) := by
  refine Go.pure (fun p e R s m args below meth c Q H locs cells slots ls hC hR hl kk => ?_) k
  obtain ⟨-, -, hcell⟩ := hR.2.2.2.2 a (by omega)
  rw [hka] at hcell
  have hlt : i.toNatClampNeg < hN h a := Nat.not_le.mp fun q => hin (Or.inr q)
  exact W.lald (v := .long (hL h a i.toNatClampNeg)) hC.1 hC.2.1 hcell ((hC.2.2.2.2.2.2.2.2.2.1 110 .long rfl).1 _ _) (fun q => by cases q) (by show ¬ (i < 0 ∨ (arrV _ _ _).slots.size ≤ _); rw [arrV_size]; exact hin) (by show (arrV _ _ _).slots[_]? = _; rw [arrV_read _ _ hlt]; rfl) rfl rfl hd (kk ls hl)
theorem g_aald {G : Gl} {mi : MI} {h0 h : Hp} {P : Option Value → Hp → Prop} {pc : Nat} {L : List (Nat × Value)} {st : List Value} {i : Int32} {a kd : Nat} {ty : FieldType} (hka : hK h a = kd) (hkd : 120 ≤ kd) (hty : aT kd = some ty) (hrf : ty.isReference = true) (hin : vp_in i (hN h a)) (hd : decode mi.2.1 pc = .ok (.aaload, 1)) (k : Go G mi h0 P h (pc + 1) L (va_rf (hQ h a i.toNatClampNeg) :: st)) : Go G mi h0 P h pc L (.int i :: .ref a :: st) := by
  refine Go.pure (fun p e R s m args below meth c Q H locs cells slots ls hC hR hl kk => ?_) k
  obtain ⟨-, -, hcell⟩ := hR.2.2.2.2 a (by omega)
  rw [hka] at hcell
  have hlt : i.toNatClampNeg < hN h a := Nat.not_le.mp fun q => hin (Or.inr q)
  exact W.aald (v := va_rf (hQ h a i.toNatClampNeg)) (ty := ty) hC.1 hC.2.1 hcell ((hC.2.2.2.2.2.2.2.2.2.1 kd ty hty).1 _ _) hrf (fun q => by cases q) (by show ¬ (i < 0 ∨ (arrV _ _ _).slots.size ≤ _); rw [arrV_size]; exact hin) (by show (arrV _ _ _).slots[_]? = _; rw [arrV_read _ _ hlt]; simp only [eV]; rw [if_neg (by omega), if_neg (by omega)]) rfl rfl hd (kk ls hl)
theorem g_alen {G : Gl} {mi : MI} {h0 h : Hp} {P : Option Value → Hp → Prop} {pc : Nat} {L : List (Nat × Value)} {st : List Value} {a kd : Nat} {ty : FieldType} (hka : hK h a = kd) (hkd : 100 ≤ kd) (hty : aT kd = some ty) (hd : decode mi.2.1 pc = .ok (.arraylength, 1)) (k : Go G mi h0 P h (pc + 1) L (.int (nI (hN h a)) :: st)) : Go G mi h0 P h pc L (.ref a :: st) := by
  refine Go.pure (fun p e R s m args below meth c Q H locs cells slots ls hC hR hl kk => ?_) k
  obtain ⟨-, -, hcell⟩ := hR.2.2.2.2 a (by omega)
  rw [hka] at hcell
  exact W.alen (n := nI (hN h a)) hC.1 hC.2.1 hcell ((hC.2.2.2.2.2.2.2.2.2.1 kd ty hty).1 _ _) (by rw [arrV_size]; rfl) rfl rfl hd (kk ls hl)
theorem g_iast {G : Gl} (hw : gF G) {mi : MI} {h0 h : Hp} {P : Option Value → Hp → Prop} {pc : Nat} {L : List (Nat × Value)} {st : List Value} {i : Int32} {a : Nat} {x : Int32} (hka : hK h a = 100) (hin : vp_in i (hN h a)) (hd : decode mi.2.1 pc = .ok (.iastore, 1)) (k : Go G mi h0 P (sA h a i.toNatClampNeg x) (pc + 1) L st) : Go G mi h0 P h pc L (.int x :: .int i :: .ref a :: st) := by
  refine Go.step (h2 := sA h a i.toNatClampNeg x) (Nat.le_refl _) (Nat.le_refl _) (fun p e R s m args below meth c Q H locs ls hC _ _ _ _ _ _ hR hL hl kk => ?_) k
  obtain ⟨-, hba, hcell⟩ := hR.2.2.2.2 a (by omega)
  rw [hka] at hcell
  refine W.iast hC.1 hC.2.1 hcell ((hC.2.2.2.2.2.2.2.2.2.1 100 .int rfl).1 _ _) (fun q => by cases q) (by show ¬ (i < 0 ∨ (arrV _ _ _).slots.size ≤ _); rw [arrV_size]; exact hin) rfl rfl hd fun H1 e1 z oq => ?_
  refine kk H1 _ ls (hR.arr (by omega) rfl rfl rfl (fun _ _ _ => rfl) (fun kd b hb => ?_) z oq ?_) (t_lc (free := Lk G) hL ⟨hw, hba⟩) hl
  · funext q
    simp [eV, hA_sA, hL_sA, hQ_sA, hb]
  · rw [e1, hka, arrV_store]
    congr 2
    funext q
    by_cases hq : q = i.toNatClampNeg
    · subst hq
      simp [updV, eV, hA_sA]
    · simp [updV, eV, hA_sA, hq]
theorem g_last {G : Gl} (hw : gF G) {mi : MI} {h0 h : Hp} {P : Option Value → Hp → Prop} {pc : Nat} {L : List (Nat × Value)} {st : List Value} {i : Int32} {a : Nat} {x : Int64} (hka : hK h a = 110) (hin : vp_in i (hN h a)) (hd : decode mi.2.1 pc = .ok (.lastore, 1)) (k : Go G mi h0 P (sL h a i.toNatClampNeg x) (pc + 1) L st) : Go G mi h0 P h pc L (.long x :: .int i :: .ref a :: st) := by
  refine Go.step (h2 := sL h a i.toNatClampNeg x) (Nat.le_refl _) (Nat.le_refl _) (fun p e R s m args below meth c Q H locs ls hC _ _ _ _ _ _ hR hL hl kk => ?_) k
  obtain ⟨-, hba, hcell⟩ := hR.2.2.2.2 a (by omega)
  rw [hka] at hcell
  refine W.last hC.1 hC.2.1 hcell ((hC.2.2.2.2.2.2.2.2.2.1 110 .long rfl).1 _ _) (fun q => by cases q) (by show ¬ (i < 0 ∨ (arrV _ _ _).slots.size ≤ _); rw [arrV_size]; exact hin) rfl rfl hd fun H1 e1 z oq => ?_
  refine kk H1 _ ls (hR.arr (by omega) rfl rfl rfl (fun _ _ _ => rfl) (fun kd b hb => ?_) z oq ?_) (t_lc (free := Lk G) hL ⟨hw, hba⟩) hl
  · funext q
    simp [eV, hA_sL, hL_sL, hQ_sL, hb]
  · rw [e1, hka, arrV_store]
    congr 2
    funext q
    by_cases hq : q = i.toNatClampNeg
    · subst hq
      simp [updV, eV, hL_sL]
    · simp [updV, eV, hL_sL, hq]
theorem g_zast {G : Gl} (hw : gF G) {mi : MI} {h0 h : Hp} {P : Option Value → Hp → Prop} {pc : Nat} {L : List (Nat × Value)} {st : List Value} {i : Int32} {a : Nat} {x : Int32} (hx : narrow .boolean (.int x) = .int x) (hka : hK h a = 101) (hin : vp_in i (hN h a)) (hd : decode mi.2.1 pc = .ok (.bastore, 1)) (k : Go G mi h0 P (sA h a i.toNatClampNeg x) (pc + 1) L st) : Go G mi h0 P h pc L (.int x :: .int i :: .ref a :: st) := by
  refine Go.step (h2 := sA h a i.toNatClampNeg x) (Nat.le_refl _) (Nat.le_refl _) (fun p e R s m args below meth c Q H locs ls hC _ _ _ _ _ _ hR hL hl kk => ?_) k
  obtain ⟨-, hba, hcell⟩ := hR.2.2.2.2 a (by omega)
  rw [hka] at hcell
  refine W.zast hC.1 hC.2.1 hcell ((hC.2.2.2.2.2.2.2.2.2.1 101 .boolean rfl).1 _ _) (fun q => by cases q) (by show ¬ (i < 0 ∨ (arrV _ _ _).slots.size ≤ _); rw [arrV_size]; exact hin) rfl rfl hd fun H1 e1 z oq => ?_
  refine kk H1 _ ls (hR.arr (by omega) rfl rfl rfl (fun _ _ _ => rfl) (fun kd b hb => ?_) z oq ?_) (t_lc (free := Lk G) hL ⟨hw, hba⟩) hl
  · funext q
    simp [eV, hA_sA, hL_sA, hQ_sA, hb]
  · rw [e1, hka, arrV_store]
    congr 2
    funext q
    by_cases hq : q = i.toNatClampNeg
    · subst hq
      simp [updV, eV, hA_sA, hx]
    · simp [updV, eV, hA_sA, hq]
theorem g_aast {G : Gl} (hw : gF G) {mi : MI} {h0 h : Hp} {P : Option Value → Hp → Prop} {pc : Nat} {L : List (Nat × Value)} {st : List Value} {i : Int32} {a kd v ci : Nat} {q : vw_C} (hka : hK h a = kd) (hkd : 120 ≤ kd) (hty : aT kd = some (.object q.1)) (hkv : hK h v = ci + 1) (hci : ci < 90) (hc : vwCl[ci]? = some q) (hin : vp_in i (hN h a)) (hd : decode mi.2.1 pc = .ok (.aastore, 1)) (k : Go G mi h0 P (sQ h a i.toNatClampNeg (some v)) (pc + 1) L st) : Go G mi h0 P h pc L (.ref v :: .int i :: .ref a :: st) := by
  refine Go.step (h2 := sQ h a i.toNatClampNeg (some v)) (Nat.le_refl _) (Nat.le_refl _) (fun p e R s m args below meth c Q H locs ls hC _ _ _ _ _ _ hR hL hl kk => ?_) k
  obtain ⟨-, hba, hcell⟩ := hR.2.2.2.2 a (by omega)
  rw [hka] at hcell
  have hlt : i.toNatClampNeg < hN h a := Nat.not_le.mp fun q => hin (Or.inr q)
  have hi0 : ¬ i < 0 := fun q => hin (Or.inl q)
  obtain ⟨-, -, r', hr', cellV, g1, g2, g3, -⟩ := hR.2.2.2.1 v ci hkv hci
  have hKd := hC.2.2.2.2.2.2.2.2
  have hcls := (hKd.1.1 ci q hc).2
  obtain ⟨kA, comp, k1, k2, k3, -⟩ := (hKd.2.1 kd _ hty).2
  have hcomp : comp = G.2.2.1.1 ci := Option.some.inj (k3.symm.trans hcls.1)
  subst hcomp
  obtain ⟨kC, hkC, -⟩ := hcls.2
  refine W.aast hC.1 hC.2.1 hcell (fun q h => by cases h) (fun h => by cases h) k1 k2 rfl hkC ⟨hi0, by show _ < (arrV _ _ _).slots.size; rw [arrV_size]; exact hlt⟩ g1 (fun q h => by rw [g3] at h; cases h) (by rw [g2]; exact hkC) (by rw [g2]; exact va_assign hcls) rfl rfl hd fun H1 e1 z oq => ?_
  refine kk H1 _ ls (hR.arr (by omega) rfl rfl rfl (fun _ _ _ => rfl) (fun kd b hb => ?_) z oq ?_) (t_lc (free := Lk G) hL ⟨hw, hba⟩) hl
  · funext q
    simp [eV, hA_sQ, hL_sQ, hQ_sQ, hb]
  · rw [e1, hka, arrV_store]
    congr 2
    funext q
    have n1 : ¬ kd < 110 := by omega
    have n2 : ¬ kd < 120 := by omega
    by_cases hq : q = i.toNatClampNeg
    · subst hq
      simp [updV, eV, hQ_sQ, n1, n2, va_rf]
    · simp [updV, eV, hQ_sQ, n1, n2, hq]
theorem g_aastN {G : Gl} (hw : gF G) {mi : MI} {h0 h : Hp} {P : Option Value → Hp → Prop} {pc : Nat} {L : List (Nat × Value)} {st : List Value} {i : Int32} {a kd : Nat} {C : String} (hka : hK h a = kd) (hkd : 120 ≤ kd) (hty : aT kd = some (.object C)) (hin : vp_in i (hN h a)) (hd : decode mi.2.1 pc = .ok (.aastore, 1)) (k : Go G mi h0 P (sQ h a i.toNatClampNeg none) (pc + 1) L st) : Go G mi h0 P h pc L (.null :: .int i :: .ref a :: st) := by
  refine Go.step (h2 := sQ h a i.toNatClampNeg none) (Nat.le_refl _) (Nat.le_refl _) (fun p e R s m args below meth c Q H locs ls hC _ _ _ _ _ _ hR hL hl kk => ?_) k
  obtain ⟨-, hba, hcell⟩ := hR.2.2.2.2 a (by omega)
  rw [hka] at hcell
  refine va_WaastN (C := C) hC.1 hC.2.1 hcell ((hC.2.2.2.2.2.2.2.2.2.1 kd _ hty).1 _ _) (fun h => by cases h) (by show ¬ (i < 0 ∨ (arrV _ _ _).slots.size ≤ _); rw [arrV_size]; exact hin) rfl rfl hd fun H1 e1 z oq => ?_
  refine kk H1 _ ls (hR.arr (by omega) rfl rfl rfl (fun _ _ _ => rfl) (fun kd b hb => ?_) z oq ?_) (t_lc (free := Lk G) hL ⟨hw, hba⟩) hl
  · funext q
    simp [eV, hA_sQ, hL_sQ, hQ_sQ, hb]
  · rw [e1, hka, arrV_store]
    congr 2
    funext q
    have n1 : ¬ kd < 110 := by omega
    have n2 : ¬ kd < 120 := by omega
    by_cases hq : q = i.toNatClampNeg
    · subst hq
      simp [updV, eV, hQ_sQ, n1, n2, va_rf]
    · simp [updV, eV, hQ_sQ, n1, n2, hq]
theorem g_newa {G : Gl} {mi : MI} {h0 h : Hp} {P : Option Value → Hp → Prop} {pc : Nat} {L : List (Nat × Value)} {st : List Value} {atype : ArrayType} {n : Int32} (N kd : Nat) {ty : FieldType} (hty : newarray.typeOf atype = ty) (hk1 : 100 ≤ kd) (hat : aT kd = some ty) (hdf : ∀ q, eV (nw h kd N N) kd (hT h) q = defaultValue ty) (hn : ¬ n < 0) (hN : n.toNatClampNeg = N) (hbytes : N * componentBytes ty ≤ 536870912) (hw : Cond.arrayClass ty ∈ lw_tb) (hra : ∀ U cA, va_RA U cA ty → U.vm.findClass ("[" ++ ty.toString) = some cA) (hd : decode mi.2.1 pc = .ok (.newarray atype, 2))
    (k : Go G mi h0 P (nw h kd N N) (pc + 2) L (.ref (hT h) :: st)) : Go G mi h0 P h pc L (.int n :: st) := by
  refine Go.step (by rw [hT_nw]; omega) (by rw [hU_nw]; omega) (fun p e R s m args below meth c Q H locs ls hC _ _ b1 b2 b3 b4 hR hL hl kk => ?_) k
  subst hty
  rw [hT_nw] at b1 kk
  rw [hU_nw] at b2 kk
  refine va_newaK hC.1 hC.2.1 (hC.2.2.2.2.1 _ hw) rfl hd rfl hn hN hbytes (by omega) (by omega) hR.1.symm fun H1 cA e1 z1 o1 hAr hNm => ?_
  have hcA : G.2.2.2.1 kd = cA := Option.some.inj ((hra _ _ (hC.2.2.2.2.2.2.2.2.2.1 kd _ hat).2).symm.trans hNm)
  have hw := kk H1 locs ls (hR.grown (kd := kd) (n := N) (u := N) z1 o1 (fun cj hcj hj => by omega) (fun _ => ?_)) hL hl
  · rw [show hT h + 1 - hT h0 = hT h - hT h0 + 1 by omega, show hU h + N - hU h0 = hU h - hU h0 + N by omega] at hw
    exact hw
  · rw [e1, hcA]
    congr 2
    funext q
    exact (hdf q).symm
theorem g_newai {G : Gl} {mi : MI} {h0 h : Hp} {P : Option Value → Hp → Prop} {pc : Nat} {L : List (Nat × Value)} {st : List Value} {n : Int32} (N : Nat) (hn : ¬ n < 0) (hN : n.toNatClampNeg = N) (hbytes : N * 4 ≤ 536870912) (hw : Cond.arrayClass .int ∈ lw_tb) (hd : decode mi.2.1 pc = .ok (.newarray .int, 2))
    (k : Go G mi h0 P (nw h 100 N N) (pc + 2) L (.ref (hT h) :: st)) : Go G mi h0 P h pc L (.int n :: st) :=
  g_newa (atype := .int) (ty := .int) N 100 rfl (by omega) rfl (fun q => by simp [eV, hA_nw, defaultValue]) hn hN hbytes hw (fun _ _ h => h) hd k
theorem g_newaz {G : Gl} {mi : MI} {h0 h : Hp} {P : Option Value → Hp → Prop} {pc : Nat} {L : List (Nat × Value)} {st : List Value} {n : Int32} (N : Nat) (hn : ¬ n < 0) (hN : n.toNatClampNeg = N) (hbytes : N * 1 ≤ 536870912) (hw : Cond.arrayClass .boolean ∈ lw_tb) (hd : decode mi.2.1 pc = .ok (.newarray .boolean, 2))
    (k : Go G mi h0 P (nw h 101 N N) (pc + 2) L (.ref (hT h) :: st)) : Go G mi h0 P h pc L (.int n :: st) :=
  g_newa (atype := .boolean) (ty := .boolean) N 101 rfl (by omega) rfl (fun q => by simp [eV, hA_nw, defaultValue]) hn hN hbytes hw (fun _ _ h => h) hd k
theorem g_newal {G : Gl} {mi : MI} {h0 h : Hp} {P : Option Value → Hp → Prop} {pc : Nat} {L : List (Nat × Value)} {st : List Value} {n : Int32} (N : Nat) (hn : ¬ n < 0) (hN : n.toNatClampNeg = N) (hbytes : N * 8 ≤ 536870912) (hw : Cond.arrayClass .long ∈ lw_tb) (hd : decode mi.2.1 pc = .ok (.newarray .long, 2))
    (k : Go G mi h0 P (nw h 110 N N) (pc + 2) L (.ref (hT h) :: st)) : Go G mi h0 P h pc L (.int n :: st) :=
  g_newa (atype := .long) (ty := .long) N 110 rfl (by omega) rfl (fun q => by simp [eV, hL_nw, defaultValue]) hn hN hbytes hw (fun _ _ h => h) hd k
theorem g_anew {G : Gl} {mi : MI} {h0 h : Hp} {P : Option Value → Hp → Prop} {pc : Nat} {L : List (Nat × Value)} {st : List Value} {idx : Nat} {C : String} {n : Int32} (N kd : Nat) (hk1 : 120 ≤ kd) (hat : aT kd = some (.object C)) (hn : ¬ n < 0) (hN : n.toNatClampNeg = N) (hbytes : N * 4 ≤ 536870912) (hl1 : Cond.classLink mi.1.cls idx C ∈ lw_tb) (hao : C ∈ aoC) (hd : decode mi.2.1 pc = .ok (.anewarray idx, 3))
    (k : Go G mi h0 P (nw h kd N N) (pc + 3) L (.ref (hT h) :: st)) : Go G mi h0 P h pc L (.int n :: st) := by
  refine Go.step (by rw [hT_nw]; omega) (by rw [hU_nw]; omega) (fun p e R s m args below meth c Q H locs ls hC _ _ b1 b2 b3 b4 hR hL hl kk => ?_) k
  subst hN
  rw [hT_nw] at b1 kk
  rw [hU_nw] at b2 kk
  have hKd := hC.2.2.2.2.2.2.2.2
  refine W.anew hC.1 hC.2.1 hC.2.2.2.1 (hC.2.2.2.2.1 _ hl1) (va_AO.use (hKd.2.2.1 C hao)) rfl hd rfl hn hbytes (by omega) (by omega) fun cA kA comp f1 f2 f3 f4 => ?_
  obtain ⟨kA', comp', k1, k2, k3, k4⟩ := (hKd.2.1 kd _ hat).2
  have hcA : G.2.2.2.1 kd = cA := Option.some.inj (k4.symm.trans f1)
  generalize hH1 : H.push ({ cls := cA, slots := Array.replicate n.toNatClampNeg .null, vm := .none } : Cell) = H1
  have z1 : H1.size = hT h + 1 := by rw [← hH1, Array.size_push, hR.1]
  have e1 : H1[hT h]? = some (arrV cA n.toNatClampNeg (fun _ => .null)) := by rw [← hH1, hR.1, Array.getElem?_push_size, ← arrV_new]
  have o1 : ∀ q : Nat, q < hT h → H1[q]? = H[q]? := fun q hq => by rw [← hH1, Array.getElem?_push, if_neg (by have := hR.1; omega)]
  have hw := kk H1 locs ls (hR.grown (kd := kd) (n := n.toNatClampNeg) (u := n.toNatClampNeg) z1 o1 (fun cj hcj hj => by omega) (fun _ => ?_)) hL hl
  · rw [show hT h + 1 - hT h0 = hT h - hT h0 + 1 by omega, show hU h + n.toNatClampNeg - hU h0 = hU h - hU h0 + n.toNatClampNeg by omega] at hw
    rw [← hR.1]
    exact hw
  · rw [e1, hcA]
    congr 2
    funext q
    have n1 : ¬ kd < 110 := by omega
    have n2 : ¬ kd < 120 := by omega
    simp [eV, hQ_nw, n1, n2, va_rf]
