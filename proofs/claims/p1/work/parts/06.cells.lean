theorem va_P1 {D : va_G} {cl : List vw_C} {a : Nat} {e : va_E} {H : Heap} (h : va_at D cl (a, e) H) : va_P D cl [(a, e)] H := by
  intro k q hk
  cases k with
  | zero => cases hk; exact h
  | succ k => simp at hk
theorem vp_V_map {N k : Nat} (f : Nat → Value) (hk : k < N) : vp_V ((List.range N).map f) k = f k := by
  simp [vp_V, List.getD_eq_getElem?_getD, hk]
/-- a kind of object is as the tables have it -/
def cOK (ci : Nat) (C : String) (T : u_T) (N : Nat) : Prop :=
  vwCl[ci]? = some (C, T, N) ∧ ci < 90 ∧ (∀ w ∈ u_ws C T N, w ∈ lw_tb) ∧ (∀ k, k < N → parseFieldDescriptor (T k).2.2.1 = some (tyC ci k)) ∧ (∀ a, a < N → ∀ b, b < N → a ≠ b → (T a).2.1 ≠ (T b).2.1) ∧ (∀ k, k < N → defaultValue (tyC ci k) = if (tyC ci k).isReference = true then .null else .int 0)
theorem g_get {G : Gl} {mi : MI} {h0 h : Hp} {P : Option Value → Hp → Prop} {pc : Nat} {L : List (Nat × Value)} {st : List Value} {ci j idx : Nat} {C : String} {T : u_T} {N a : Nat} (hc : cOK ci C T N) (hj : j < N) (hlink : Cond.fieldLink mi.1.cls idx (T j).1 (T j).2.1 (T j).2.2.1 ∈ lw_tb) (hd : decode mi.2.1 pc = .ok (.getfield idx, 3)) (hka : hK h a = ci + 1)
    (k : Go G mi h0 P h (pc + 3) L (oV h (tyC ci) (ofC ci) a j :: st)) : Go G mi h0 P h pc L (.ref a :: st) := by
  refine Go.pure (fun p e R s m args below meth c Q H locs cells slots ls hC hR hl kk => ?_) k
  obtain ⟨hc0, hci, hin, -⟩ := hc
  obtain ⟨h1, h2, r, h3, h4⟩ := hR.2.2.2.1 a ci hka hci
  have hr : r = (C, T, N) := Option.some.inj (h3.symm.trans hc0)
  subst hr
  have hP : va_P G.2.2.1 vwCl [(a, .inr (ci, (List.range N).map (oV h (tyC ci) (ofC ci) a)))] H := va_P1 ⟨_, hc0, h4.to (fun k hk => (vp_V_map _ hk).symm)⟩
  exact va_get (D := G.2.2.1) (ci := ci) (C := C) (T := T) (N := N) hC.1 hC.2.1 hC.2.2.2.2.1 hin hC.2.2.2.1 hC.2.2.2.2.2.2.2.2.1 hP 0 rfl hc0 j hj (hC.2.2.2.2.1 _ hlink) (fun _ h9 => h9) (by simp [hj]) hd (kk ls hl)
/-- one object's cell has changed -/
theorem Rp.obj {G : Gl} {h h2 : Hp} {H H2 : Heap} (hR : Rp G h H) {a ci : Nat} {r : vw_C} (hka : hK h a = ci + 1) (hci : ci < 90) (hc : vwCl[ci]? = some r) (e1 : hT h2 = hT h) (e2 : hK h2 = hK h) (e3 : hN h2 = hN h) (e4 : ∀ kd b, eV h2 kd b = eV h kd b) (e5 : ∀ ty off b, b ≠ a → oV h2 ty off b = oV h ty off b)
    (z : H2.size = H.size) (o : ∀ q : Nat, q ≠ a → H2[q]? = H[q]?) (hob : t_OB a (G.2.2.1.1 ci) r.2.2 (G.2.2.1.2 ci) H2 (oV h2 (tyC ci) (ofC ci) a)) : Rp G h2 H2 := by
  obtain ⟨r1, r2, r3, r4, r5⟩ := hR
  obtain ⟨b1, b2, -⟩ := r4 a ci hka hci
  refine ⟨by rw [e1, z]; exact r1, by rw [e1]; exact r2, fun q hq => by rw [o q (by omega)]; exact r3 q hq, fun b cj hb hj => ?_, fun b hb => ?_⟩
  · rw [e2] at hb
    rw [e1]
    by_cases hab : b = a
    · subst hab
      have : cj = ci := by omega
      subst this
      exact ⟨b1, b2, r, hc, hob⟩
    · obtain ⟨c1, c2, r', c3, c4⟩ := r4 b cj hb hj
      exact ⟨c1, c2, r', c3, by rw [e5 _ _ b hab]; exact c4.kept (o b hab)⟩
  · rw [e2] at hb
    have hab : b ≠ a := fun q => by subst q; omega
    obtain ⟨c1, c2, c3⟩ := r5 b hb
    rw [e1, e2, e3, e4]
    exact ⟨c1, c2, by rw [o b hab]; exact c3⟩
theorem g_putX {G : Gl} (hw : gF G) {mi : MI} {h0 h h2 : Hp} {P : Option Value → Hp → Prop} {pc : Nat} {L : List (Nat × Value)} {st : List Value} {ci j idx : Nat} {C : String} {T : u_T} {N a : Nat} {v : Value} (hc : cOK ci C T N) (hj : j < N) (hlink : Cond.fieldLink mi.1.cls idx (T j).1 (T j).2.1 (T j).2.2.1 ∈ lw_tb) (hd : decode mi.2.1 pc = .ok (.putfield idx, 3)) (hka : hK h a = ci + 1)
    (hfin : (T j).2.2.2 = false ∨ ((T j).2.2.2 = true ∧ mi.1.name = "<init>" ∧ (T j).1 = mi.1.cls)) (hn : narrow (tyC ci j) v = v) (hfit : fits (tyC ci j) v = true)
    (e1 : hT h2 = hT h) (eu : hU h2 = hU h) (e2 : hK h2 = hK h) (e3 : hN h2 = hN h) (e4 : ∀ kd b, eV h2 kd b = eV h kd b) (e5 : ∀ ty off b, b ≠ a → oV h2 ty off b = oV h ty off b) (e6 : ∀ k, k < N → oV h2 (tyC ci) (ofC ci) a k = updV (oV h (tyC ci) (ofC ci) a) j v k)
    (k : Go G mi h0 P h2 (pc + 3) L st) : Go G mi h0 P h pc L (v :: .ref a :: st) := by
  refine Go.step (by rw [e1]; exact Nat.le_refl _) (by rw [eu]; exact Nat.le_refl _) (fun p e R s m args below meth c Q H locs ls hC _ _ _ _ _ _ hR hL hl kk => ?_) k
  rw [e1, eu] at kk
  obtain ⟨hc0, hci, hin, hty, hnm, -⟩ := hc
  obtain ⟨hx, hb, hml, hown, hts, hret, hlk, hnme, hKd⟩ := hC
  have hap := va_apart (own := mi.1.cls) hts hin (tyC ci) hty hnm hKd.1 hc0
  obtain ⟨h1, h2', r, h3, cell, q1, q2, q3, q4⟩ := hR.2.2.2.1 a ci hka hci
  have hr : r = (C, T, N) := Option.some.inj (h3.symm.trans hc0)
  subst hr
  obtain ⟨hS, hfc, kC, hkC, hkind⟩ := hKd.1.1 ci _ hc0
  obtain ⟨cf, kf, fi, f, hi, hsl⟩ := hS j hj
  have hst := (u_facts hfc hkC (u_lays hts hin hj) hi).1
  have hlay := hts _ (hin _ (u_in_lay hj))
  unfold u_lay at hlay
  have hlocs : ∀ q ∈ locs ++ [⟨a, f.slot⟩], Lk G q.base := t_lc (free := Lk G) hL ⟨hw, h2'⟩
  rcases hfin with hfin | ⟨hfin, hini, hdecl⟩
  · rw [if_neg (by rw [hfin]; decide)] at hlay
    have h6 := u_store hfc hkC hkind hlay hi (hty j hj) hn hfit
    refine W.putK hx hb (f := f) ⟨hown, hts _ hlink, ⟨_, _, _, hi⟩, hst⟩ (by rw [q2]; exact h6) q1 q3 (by rw [hsl]; exact k2_hasslot (q4 j hj)) rfl rfl hd fun H' a1 a2 a3 => ?_
    rw [hsl] at a1
    exact kk H' _ ls (hR.obj hka hci hc0 e1 e2 e3 e4 e5 a2 a3 (t_OB.to (V := updV (oV h (tyC ci) (ofC ci) a) j v) ⟨_, a1, q2, q3, t_set q4 hap hj v⟩ (fun k hk => (e6 k hk).symm))) hlocs hl
  · rw [if_pos hfin] at hlay
    have hcf : m.cls = cf := by
      obtain ⟨_, _, c', _, _, _, -, -, hf', -, -, -, hown2, -⟩ := Cond.laysFinal_spec hlay
      have x1 : c' = cf := by have := hi.symm.trans hf'; simp at this; exact this.1.symm
      rw [hdecl] at hown2
      rw [← x1]; exact Option.some.inj (hown.symm.trans hown2)
    have h6 := u_fits hfc hkC hkind (Or.inr hlay) hi (hty j hj) hn hfit
    refine W.putFinK hx hb hown (hts _ hlink) hi hst hcf (hnme.1.trans hini) (by rw [q2]; exact h6) q1 q3 (by rw [hsl]; exact k2_hasslot (q4 j hj)) rfl rfl hd fun H' a1 a2 a3 => ?_
    rw [hsl] at a1
    exact kk H' _ ls (hR.obj hka hci hc0 e1 e2 e3 e4 e5 a2 a3 (t_OB.to (V := updV (oV h (tyC ci) (ofC ci) a) j v) ⟨_, a1, q2, q3, t_set q4 hap hj v⟩ (fun k hk => (e6 k hk).symm))) hlocs hl
theorem g_putI {G : Gl} (hw : gF G) {mi : MI} {h0 h : Hp} {P : Option Value → Hp → Prop} {pc : Nat} {L : List (Nat × Value)} {st : List Value} {ci j idx : Nat} {C : String} {T : u_T} {N a : Nat} {x : Int32} (hc : cOK ci C T N) (hj : j < N) (hlink : Cond.fieldLink mi.1.cls idx (T j).1 (T j).2.1 (T j).2.2.1 ∈ lw_tb) (hd : decode mi.2.1 pc = .ok (.putfield idx, 3)) (hka : hK h a = ci + 1)
    (hfin : (T j).2.2.2 = false ∨ ((T j).2.2.2 = true ∧ mi.1.name = "<init>" ∧ (T j).1 = mi.1.cls)) (hr : (tyC ci j).isReference = false) (hn : narrow (tyC ci j) (.int x) = .int x) (hfit : fits (tyC ci j) (.int x) = true)
    (k : Go G mi h0 P (sI h (ofC ci + j) a x) (pc + 3) L st) : Go G mi h0 P h pc L (.int x :: .ref a :: st) := by
  refine g_putX hw (h2 := sI h (ofC ci + j) a x) hc hj hlink hd hka hfin hn hfit rfl rfl rfl rfl (fun _ _ => rfl) (fun ty off b hb => ?_) (fun q hq => ?_) k
  · funext q
    simp [oV, hI_sI, hR_sI, hb]
  · by_cases hqj : q = j
    · subst hqj
      simp [oV, updV, hr, hI_sI]
    · simp [oV, updV, hI_sI, hR_sI, hqj]
theorem g_putR {G : Gl} (hw : gF G) {mi : MI} {h0 h : Hp} {P : Option Value → Hp → Prop} {pc : Nat} {L : List (Nat × Value)} {st : List Value} {ci j idx : Nat} {C : String} {T : u_T} {N a : Nat} (x : Option Nat) {v : Value} (hv : v = va_rf x) (hc : cOK ci C T N) (hj : j < N) (hlink : Cond.fieldLink mi.1.cls idx (T j).1 (T j).2.1 (T j).2.2.1 ∈ lw_tb) (hd : decode mi.2.1 pc = .ok (.putfield idx, 3)) (hka : hK h a = ci + 1)
    (hfin : (T j).2.2.2 = false ∨ ((T j).2.2.2 = true ∧ mi.1.name = "<init>" ∧ (T j).1 = mi.1.cls)) (hr : (tyC ci j).isReference = true)
    (k : Go G mi h0 P (sR h (ofC ci + j) a x) (pc + 3) L st) : Go G mi h0 P h pc L (v :: .ref a :: st) := by
  subst hv
  have hn : narrow (tyC ci j) (va_rf x) = va_rf x := by
    cases hty : tyC ci j <;> rw [hty] at hr <;> first | (simp [FieldType.isReference] at hr; done) | (cases x <;> rfl)
  have hfit : fits (tyC ci j) (va_rf x) = true := by
    cases hty : tyC ci j <;> rw [hty] at hr <;> first | (simp [FieldType.isReference] at hr; done) | (cases x <;> rfl)
  refine g_putX hw (h2 := sR h (ofC ci + j) a x) hc hj hlink hd hka hfin hn hfit rfl rfl rfl rfl (fun _ _ => rfl) (fun ty off b hb => ?_) (fun q hq => ?_) k
  · funext q
    simp [oV, hI_sR, hR_sR, hb]
  · by_cases hqj : q = j
    · subst hqj
      simp [oV, updV, hr, hR_sR]
    · simp [oV, updV, hI_sR, hR_sR, hqj]
/-- a new cell -/
theorem Rp.grown {G : Gl} {h : Hp} {H H2 : Heap} (hR : Rp G h H) {kd n u : Nat} (z : H2.size = hT h + 1) (o : ∀ q : Nat, q < hT h → H2[q]? = H[q]?)
    (hob : ∀ ci, kd = ci + 1 → ci < 90 → ∃ r : vw_C, vwCl[ci]? = some r ∧ t_OB (hT h) (G.2.2.1.1 ci) r.2.2 (G.2.2.1.2 ci) H2 (oV (nw h kd n u) (tyC ci) (ofC ci) (hT h)))
    (har : 100 ≤ kd → H2[hT h]? = some (arrV (G.2.2.2.1 kd) n (eV (nw h kd n u) kd (hT h)))) : Rp G (nw h kd n u) H2 := by
  obtain ⟨r1, r2, r3, r4, r5⟩ := hR
  refine ⟨by rw [hT_nw, z], by rw [hT_nw]; omega, fun q hq => by rw [o q (by omega)]; exact r3 q hq, fun b cj hb hj => ?_, fun b hb => ?_⟩
  · rw [hK_nw] at hb
    rw [hT_nw]
    by_cases hbt : b = hT h
    · rw [if_pos hbt] at hb
      subst hbt
      exact ⟨by omega, r2, hob cj hb hj⟩
    · rw [if_neg hbt] at hb
      obtain ⟨c1, c2, r', c3, c4⟩ := r4 b cj hb hj
      refine ⟨by omega, c2, r', c3, (c4.kept (o b c1)).to (fun k _ => ?_)⟩
      simp only [oV, hI_nw, hR_nw, if_neg hbt]
  · rw [hK_nw] at hb ⊢
    rw [hT_nw, hN_nw]
    by_cases hbt : b = hT h
    · rw [if_pos hbt] at hb ⊢
      rw [if_pos hbt]
      subst hbt
      exact ⟨by omega, r2, har hb⟩
    · rw [if_neg hbt] at hb ⊢
      rw [if_neg hbt]
      obtain ⟨c1, c2, c3⟩ := r5 b hb
      refine ⟨by omega, c2, ?_⟩
      rw [o b c1, c3]
      congr 2
      funext q
      simp only [eV, hA_nw, hL_nw, hQ_nw, if_neg hbt]
theorem g_new {G : Gl} {mi : MI} {h0 h : Hp} {P : Option Value → Hp → Prop} {pc : Nat} {L : List (Nat × Value)} {st : List Value} {ci idx : Nat} {C : String} {T : u_T} {N : Nat} (hc : cOK ci C T N) (hl1 : Cond.classLink mi.1.cls idx C ∈ lw_tb) (hl2 : Cond.instantiable C N ∈ lw_tb) (hl3 : Cond.initialized C ∈ lw_tb) (hd : decode mi.2.1 pc = .ok (.new idx, 3))
    (k : Go G mi h0 P (nw h (ci + 1) 0 N) (pc + 3) L (.ref (hT h) :: st)) : Go G mi h0 P h pc L st := by
  refine Go.step (by rw [hT_nw]; omega) (by rw [hU_nw]; omega) (fun p e R s m args below meth c Q H locs ls hC _ _ b1 b2 b3 b4 hR hL hl kk => ?_) k
  obtain ⟨hc0, hci, hin, hty, hnm, hdf⟩ := hc
  obtain ⟨hx, hb, hml, hown, hts, hret, hlk, hnme, hKd⟩ := hC
  rw [hT_nw] at b1 kk
  rw [hU_nw] at b2 kk
  have hKn := hKd.1.1 ci _ hc0
  refine W.newcK hx hb hown (hts _ hl1) (hts _ hl2) (hts _ hl3) rfl hd (by omega) (by omega) hKn.2.1 hR.1.symm fun H1 kC hkC e1 z1 o1 => ?_
  have hw := kk H1 locs ls (hR.grown (kd := ci + 1) (n := 0) (u := N) z1 o1 (fun cj hcj hj => ?_) (fun h9 => by omega)) hL hl
  · rw [show hT h + 1 - hT h0 = hT h - hT h0 + 1 by omega, show hU h + N - hU h0 = hU h - hU h0 + N by omega] at hw
    exact hw
  · have : cj = ci := by omega
    subst this
    refine ⟨_, hc0, (u_born (tyC cj) hts hin hKn hkC e1 hty).to (fun q hq => ?_)⟩
    rw [hdf q hq]
    simp only [oV, hI_nw, hR_nw, if_true]
    rfl
