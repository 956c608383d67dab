/-! contracts: from the pure heap h and the arguments as the method comes to r and h' -/
def pcA (G : Gl) (as : List Value) (h : Hp) : Array Value → State → Prop := fun v U => v = as.toArray ∧ Rp G h U.heap ∧ Kd G U
def qcA (G : Gl) (r : Option Value) (h' : Hp) : Array Value → State → Outcome → State → Prop := fun _ _ o t => o = .returned r ∧ Rp G h' t.heap
def Ev (G : Gl) (mi : MI) (as : List Value) (h : Hp) (r : Option Value) (h' : Hp) : Prop :=
  rOk mi.2.2.2.1 r ∧ hT h ≤ hT h' ∧ hU h ≤ hU h' ∧ Met G.1 mi.1 (wsy mi) ({ frames := mi.2.2.2.2.1, cells := hT h' - hT h, slots := hU h' - hU h, locals := mi.2.2.2.2.2 }) (pcA G as h) (qcA G r h') (hT h' - hT h) (hU h' - hU h) (Lk G)
def Ex (G : Gl) (mi : MI) (as : List Value) (h : Hp) (P : Option Value → Hp → Prop) : Prop := ∃ r h', Ev G mi as h r h' ∧ P r h'
theorem Ex.weaken {G : Gl} {mi : MI} {as : List Value} {h : Hp} {P P' : Option Value → Hp → Prop} (hP : ∀ r h', P r h' → P' r h') (k : Ex G mi as h P) : Ex G mi as h P' := by
  obtain ⟨r, h', hr, hp⟩ := k
  exact ⟨r, h', hr, hP r h' hp⟩
theorem Ex.of {G : Gl} {mi : MI} {as : List Value} {h : Hp} {P : Option Value → Hp → Prop} (hm : ∀ r h', P r h' → ¬ mk r) (hy : plainName mi.1.cls = true) (hlen : (lg_sl as).length ≤ mi.2.2.1) (k : Go G mi h P h 0 (lv_args 0 as) []) : Ex G mi as h P := by
  obtain ⟨r, h', ⟨h1o, h2, h3, h4⟩, hp⟩ := k
  have h1 : rOk mi.2.2.2.1 r := h1o.resolve_right (hm r h' hp)
  refine ⟨r, h', ⟨h1, h2, h3, ?_⟩, hp⟩
  refine Met.ofW (cc := mi.2.1) (maxL := mi.2.2.1) (ret := mi.2.2.2.1) hy rfl ?_
  intro p e s m args below meth c s₁ B hml hv
  obtain ⟨rfl, hR, hKd⟩ := hv
  have hts := atoms_spec (ws := wsy mi) B.pre
  have hret := B.returns
  have hlocks := B.notSynchronized
  rw [lg_entry_eq]
  have key := h4 p e (headSpec (wsy mi) ({ frames := mi.2.2.2.2.1, cells := hT h' - hT h, slots := hU h' - hU h, locals := mi.2.2.2.2.2 })).room s m as.toArray below meth c (MQ below (qcA G r h') as.toArray s (hT h' - hT h) (hU h' - hU h) (Lk G)) s.heap [] _
    ⟨B.exec, B.bytes, hml, findClass_of_methodNamed B.named, fun w hw => hts w (List.mem_cons_of_mem _ hw), hret, hlocks, ⟨(name_of_methodNamed B.named B.method).1, B.named⟩, hKd⟩ (Nat.le_refl _) (Nat.le_refl _)
    (by show hT h' ≤ hT h + (hT h' - hT h); omega) (by show hU h' ≤ hU h + (hU h' - hU h); omega) (Nat.le_refl _) (Nat.le_refl _) ?_ hR (fun q hq => by cases hq) (lv_entry as hlen)
  · rw [Nat.sub_self, Nat.sub_self] at key
    exact key
  · intro pc ls H locs hR' hL _ hd0
    have hd := (rOk_e h1 mi pc).1.mp hd0
    rw [(rOk_e h1 mi pc).2]
    have hq : ∀ t : State, t.heap = H → s.WarmedH t.vm → qcA G r h' as.toArray s (.returned r) t := fun t ht _ => ⟨rfl, by rw [ht]; exact hR'⟩
    revert h1
    generalize hrt : mi.2.2.2.1 = rt at hret
    intro h1
    match rt, r, h1 with
    | none, none, _ => exact W.vret B.exec B.bytes hret hq hL hd
    | some .int, some (.int v), _ => exact W.iret B.exec B.bytes hret hq hL hd
    | some .boolean, some (.int v), h1 => exact W.zret B.exec B.bytes hret h1 hq hL hd
    | some .long, some (.long v), _ => exact W.lret B.exec B.bytes hret hq hL hd
    | some (.object n), some .null, _ => exact W.aret B.exec B.bytes hret (Or.inl ⟨_, rfl⟩) (Or.inl rfl) hq hL hd
    | some (.object n), some (.ref a), _ => exact W.aret B.exec B.bytes hret (Or.inl ⟨_, rfl⟩) (Or.inr ⟨_, rfl⟩) hq hL hd
    | some (.array t), some .null, _ => exact W.aret B.exec B.bytes hret (Or.inr ⟨_, rfl⟩) (Or.inl rfl) hq hL hd
    | some (.array t), some (.ref a), _ => exact W.aret B.exec B.bytes hret (Or.inr ⟨_, rfl⟩) (Or.inr ⟨_, rfl⟩) hq hL hd
/-- a callee's code is at hand, and there is room for it -/
def cW (mi mz : MI) (n : Nat) : Prop :=
  Cond.code mz.1 mz.2.1 mz.2.2.1 mz.2.2.2.1 ∈ lw_tb ∧ Cond.initialized mz.1.cls ∈ lw_tb ∧ (mz.1.cls ≠ "java/lang/invoke/MethodHandle" ∧ mz.1.cls ≠ "java/lang/invoke/VarHandle" ∧ (parseMethodDescriptor mz.1.desc).map (fun d => d.parameters.length) = some n) ∧ mz.2.2.2.2.1 + 1 ≤ mi.2.2.2.2.1 ∧ 8 + (mz.2.2.1 + 11) + mz.2.2.2.2.2 ≤ mi.2.2.2.2.2
theorem wsy_warm {mz : MI} {args : Array Value} {s : State} (hcode : Cond.code mz.1 mz.2.1 mz.2.2.1 mz.2.2.2.1 ∈ lw_tb) (hts : ∀ w ∈ lw_tb, w.before args s = true) : ∀ w ∈ wsy mz, ∀ (a' : Array Value) (U : State), s.WarmedH U.vm → w.before a' U = true := by
  intro w hw a' U hW
  have hm : w ∈ lw_tb := by
    rcases List.mem_cons.mp hw with h | h
    · rw [h]; exact hcode
    · exact h
  exact word_at hW (tb_good w hm) (hts w hm)
theorem pcA_blind {G : Gl} {as : List Value} {h : Hp} : FrameBlind (pcA G as h) := fun _ _ _ _ q => ⟨q.1, q.2.1, q.2.2.vm rfl⟩
theorem g_callS {G : Gl} {mi mz : MI} {h0 h : Hp} {P P1 : Option Value → Hp → Prop} {pc : Nat} {L : List (Nat × Value)} {st : List Value} {idx n : Nat} {As rest : List Value} (hE : Ex G mz (As) h P1) (hcw : cW mi mz n) (hlk : Cond.methodLink mi.1.cls idx mz.1 ∈ lw_tb) (hk : Cond.static mz.1 ∈ lw_tb) (hd : decode mi.2.1 pc = .ok (.invokestatic idx, 3)) (hst : st = As.reverse ++ rest) (hn : As.length = n) (hcat : (rest.map fun v => v.category).sum ≤ 8)
    (k : ∀ r h1, P1 r h1 → rOk mz.2.2.2.1 r → Go G mi h0 P h1 (pc + 3) L (r.toList ++ rest)) : Go G mi h0 P h pc L st := by
  obtain ⟨r, h1, ⟨hro, e1, e2, hM⟩, hp⟩ := hE
  subst hst
  refine Go.step e1 e2 (fun p e R s m args below meth c Q H locs ls hC f1 f2 b1 b2 b3 b4 hR hL hl kk => ?_) (k r h1 hp hro)
  obtain ⟨c1, c2, ⟨c3, c4, c5⟩, c6, c7⟩ := hcw
  obtain ⟨hx, hb, hml, hown, hts, -, -, -, hKd⟩ := id hC
  have hlen : ∀ sig, parseMethodDescriptor mz.1.desc = some sig → n = sig.parameters.length := fun sig h => by
    rw [h] at c5
    exact (Option.some.inj c5).symm
  have hws := wsy_warm (mz := mz) c1 hts
  have hrun := va_runS (e := e) (below := below) (meth := meth) (locs := locs) (R := R) (cells := hT h - hT h0) (slots := hU h - hU h0) (g := F0 m pc ls (As.reverse ++ rest)) (As := As) (rest := rest) (bytes := mz.2.1) (maxL := mz.2.2.1) (ret := mz.2.2.2.1) (rm := ({ frames := mz.2.2.2.2.1, cells := hT h1 - hT h, slots := hU h1 - hU h, locals := mz.2.2.2.2.2 } : Room)) (n := n) (H := H) (Ts := lw_tb) ⟨hx, hb, hml, hown, hts⟩ hM ⟨⟨rfl, rfl, (by show mz.2.2.2.2.1 + 1 ≤ R.frames; omega), (by show 8 + (mz.2.2.1 + 11) + mz.2.2.2.2.2 ≤ R.locals; omega), hws, List.mem_cons_self, hts _ c1, hts _ c2, ⟨c3, c4⟩, hlen, hts _ hlk⟩, hts _ hk⟩ ⟨pcA_blind, fun U hU hW => ⟨rfl, by rw [hU]; exact hR, hKd.warm hW⟩⟩ rfl hn hl.1 rfl (lv_room hcat) hd ⟨by omega, by omega⟩
  intro T hT1 X
  obtain ⟨v, st₀, t, T', L', hz, X', hL', x1, x2, ⟨hv, hrep⟩, stp⟩ := hrun T hT1 X
  cases hv
  rw [show hT h - hT h0 + (hT h1 - hT h) = hT h1 - hT h0 by omega, show hU h - hU h0 + (hU h1 - hU h) = hU h1 - hU h0 by omega] at X'
  obtain ⟨t2, a1, b1⟩ := kk T'.heap (locs ++ L') ls (by rw [x1]; exact hrep) (t_lL (free := Lk G) hL hL') hl T' rfl X'
  exact ⟨t2, stp t2 a1, b1⟩
theorem g_callSN {G : Gl} {mi mz : MI} {h0 h : Hp} {P P1 : Option Value → Hp → Prop} {pc : Nat} {L : List (Nat × Value)} {st : List Value} {idx n : Nat} {As rest : List Value} {host : String} (hE : Ex G mz (As) h P1) (hcw : cW mi mz n) (hlk : (mi.1.cls, idx, mz.1, host) ∈ nestM) (hk : Cond.static mz.1 ∈ lw_tb) (hd : decode mi.2.1 pc = .ok (.invokestatic idx, 3)) (hst : st = As.reverse ++ rest) (hn : As.length = n) (hcat : (rest.map fun v => v.category).sum ≤ 8)
    (k : ∀ r h1, P1 r h1 → rOk mz.2.2.2.1 r → Go G mi h0 P h1 (pc + 3) L (r.toList ++ rest)) : Go G mi h0 P h pc L st := by
  obtain ⟨r, h1, ⟨hro, e1, e2, hM⟩, hp⟩ := hE
  subst hst
  refine Go.step e1 e2 (fun p e R s m args below meth c Q H locs ls hC f1 f2 b1 b2 b3 b4 hR hL hl kk => ?_) (k r h1 hp hro)
  obtain ⟨c1, c2, ⟨c3, c4, c5⟩, c6, c7⟩ := hcw
  obtain ⟨hx, hb, hml, hown, hts, -, -, -, hKd⟩ := id hC
  have hlen : ∀ sig, parseMethodDescriptor mz.1.desc = some sig → n = sig.parameters.length := fun sig h => by
    rw [h] at c5
    exact (Option.some.inj c5).symm
  have hws := wsy_warm (mz := mz) c1 hts
  have hrun := va_runSN (e := e) (below := below) (meth := meth) (locs := locs) (R := R) (cells := hT h - hT h0) (slots := hU h - hU h0) (g := F0 m pc ls (As.reverse ++ rest)) (As := As) (rest := rest) (bytes := mz.2.1) (maxL := mz.2.2.1) (ret := mz.2.2.2.1) (host := host) (rm := ({ frames := mz.2.2.2.2.1, cells := hT h1 - hT h, slots := hU h1 - hU h, locals := mz.2.2.2.2.2 } : Room)) (n := n) (H := H) (Ts := lw_tb) ⟨hx, hb, hml, hown, hts⟩ hM ⟨⟨⟨rfl, rfl, (by show mz.2.2.2.2.1 + 1 ≤ R.frames; omega), (by show 8 + (mz.2.2.1 + 11) + mz.2.2.2.2.2 ≤ R.locals; omega), hws, List.mem_cons_self⟩, hts _ c1, hts _ c2, ⟨c3, c4⟩, hlen, va_Nw.use rfl (hKd.2.2.2.1 _ hlk)⟩, hts _ hk, trivial⟩ ⟨pcA_blind, fun U hU hW => ⟨rfl, by rw [hU]; exact hR, hKd.warm hW⟩⟩ rfl hn hl.1 rfl (lv_room hcat) hd ⟨by omega, by omega⟩
  intro T hT1 X
  obtain ⟨v, st₀, t, T', L', hz, X', hL', x1, x2, ⟨hv, hrep⟩, stp⟩ := hrun T hT1 X
  cases hv
  rw [show hT h - hT h0 + (hT h1 - hT h) = hT h1 - hT h0 by omega, show hU h - hU h0 + (hU h1 - hU h) = hU h1 - hU h0 by omega] at X'
  obtain ⟨t2, a1, b1⟩ := kk T'.heap (locs ++ L') ls (by rw [x1]; exact hrep) (t_lL (free := Lk G) hL hL') hl T' rfl X'
  exact ⟨t2, stp t2 a1, b1⟩
theorem g_callV {G : Gl} {mi mz : MI} {h0 h : Hp} {P P1 : Option Value → Hp → Prop} {pc : Nat} {L : List (Nat × Value)} {st : List Value} {idx n : Nat} {As rest : List Value} {b : Nat} (hE : Ex G mz (.ref b :: As) h P1) (hcw : cW mi mz n) (hlk : Cond.methodLink mi.1.cls idx mz.1 ∈ lw_tb) (hk : Cond.instanceMethod mz.1 ∈ lw_tb) (hk2 : Cond.selects mz.1.cls mz.1 mz.1 ∈ lw_tb) {ci : Nat} {q : vw_C} (hkb : hK h b = ci + 1) (hci : ci < 90) (hcl : vwCl[ci]? = some q) (hq : q.1 = mz.1.cls) (hd : decode mi.2.1 pc = .ok (.invokevirtual idx, 3)) (hst : st = As.reverse ++ .ref b :: rest) (hn : As.length = n) (hcat : (rest.map fun v => v.category).sum ≤ 8)
    (k : ∀ r h1, P1 r h1 → rOk mz.2.2.2.1 r → Go G mi h0 P h1 (pc + 3) L (r.toList ++ rest)) : Go G mi h0 P h pc L st := by
  obtain ⟨r, h1, ⟨hro, e1, e2, hM⟩, hp⟩ := hE
  subst hst
  refine Go.step e1 e2 (fun p e R s m args below meth c Q H locs ls hC f1 f2 b1 b2 b3 b4 hR hL hl kk => ?_) (k r h1 hp hro)
  obtain ⟨c1, c2, ⟨c3, c4, c5⟩, c6, c7⟩ := hcw
  obtain ⟨hx, hb, hml, hown, hts, -, -, -, hKd⟩ := id hC
  have hlen : ∀ sig, parseMethodDescriptor mz.1.desc = some sig → n = sig.parameters.length := fun sig h => by
    rw [h] at c5
    exact (Option.some.inj c5).symm
  have hws := wsy_warm (mz := mz) c1 hts
  obtain ⟨-, -, rq, hrq, cellB, g1, g2, g3, -⟩ := hR.2.2.2.1 b ci hkb hci
  have hcB : ∃ cellB : Cell, H[b]? = some cellB ∧ cellB.vm.isStatics = false ∧ s.vm.findClass mz.1.cls = some cellB.cls := ⟨cellB, g1, by rw [g3]; rfl, by rw [g2, ← hq]; exact (hKd.1.1 ci q hcl).2.1⟩
  have hrun := va_runV (e := e) (below := below) (meth := meth) (locs := locs) (R := R) (cells := hT h - hT h0) (slots := hU h - hU h0) (g := F0 m pc ls (As.reverse ++ .ref b :: rest)) (As := As) (rest := rest) (bytes := mz.2.1) (maxL := mz.2.2.1) (ret := mz.2.2.2.1) (C := mz.1.cls) (rm := ({ frames := mz.2.2.2.2.1, cells := hT h1 - hT h, slots := hU h1 - hU h, locals := mz.2.2.2.2.2 } : Room)) (n := n) (H := H) (Ts := lw_tb) ⟨hx, hb, hml, hown, hts⟩ hM ⟨⟨rfl, rfl, (by show mz.2.2.2.2.1 + 1 ≤ R.frames; omega), (by show 8 + (mz.2.2.1 + 11) + mz.2.2.2.2.2 ≤ R.locals; omega), hws, List.mem_cons_self, hts _ c1, hts _ c2, ⟨c3, c4⟩, hlen, hts _ hlk⟩, hts _ hk, hts _ hk2⟩ ⟨pcA_blind, hcB, fun U hU hW => ⟨rfl, by rw [hU]; exact hR, hKd.warm hW⟩⟩ rfl hn hl.1 rfl (lv_room hcat) hd ⟨by omega, by omega⟩
  intro T hT1 X
  obtain ⟨v, st₀, t, T', L', hz, X', hL', x1, x2, ⟨hv, hrep⟩, stp⟩ := hrun T hT1 X
  cases hv
  rw [show hT h - hT h0 + (hT h1 - hT h) = hT h1 - hT h0 by omega, show hU h - hU h0 + (hU h1 - hU h) = hU h1 - hU h0 by omega] at X'
  obtain ⟨t2, a1, b1⟩ := kk T'.heap (locs ++ L') ls (by rw [x1]; exact hrep) (t_lL (free := Lk G) hL hL') hl T' rfl X'
  exact ⟨t2, stp t2 a1, b1⟩
theorem g_callVN {G : Gl} {mi mz : MI} {h0 h : Hp} {P P1 : Option Value → Hp → Prop} {pc : Nat} {L : List (Nat × Value)} {st : List Value} {idx n : Nat} {As rest : List Value} {b : Nat} {host : String} (hE : Ex G mz (.ref b :: As) h P1) (hcw : cW mi mz n) (hlk : (mi.1.cls, idx, mz.1, host) ∈ nestM) (hk : Cond.instanceMethod mz.1 ∈ lw_tb) (hk2 : Cond.selects mz.1.cls mz.1 mz.1 ∈ lw_tb) {ci : Nat} {q : vw_C} (hkb : hK h b = ci + 1) (hci : ci < 90) (hcl : vwCl[ci]? = some q) (hq : q.1 = mz.1.cls) (hd : decode mi.2.1 pc = .ok (.invokevirtual idx, 3)) (hst : st = As.reverse ++ .ref b :: rest) (hn : As.length = n) (hcat : (rest.map fun v => v.category).sum ≤ 8)
    (k : ∀ r h1, P1 r h1 → rOk mz.2.2.2.1 r → Go G mi h0 P h1 (pc + 3) L (r.toList ++ rest)) : Go G mi h0 P h pc L st := by
  obtain ⟨r, h1, ⟨hro, e1, e2, hM⟩, hp⟩ := hE
  subst hst
  refine Go.step e1 e2 (fun p e R s m args below meth c Q H locs ls hC f1 f2 b1 b2 b3 b4 hR hL hl kk => ?_) (k r h1 hp hro)
  obtain ⟨c1, c2, ⟨c3, c4, c5⟩, c6, c7⟩ := hcw
  obtain ⟨hx, hb, hml, hown, hts, -, -, -, hKd⟩ := id hC
  have hlen : ∀ sig, parseMethodDescriptor mz.1.desc = some sig → n = sig.parameters.length := fun sig h => by
    rw [h] at c5
    exact (Option.some.inj c5).symm
  have hws := wsy_warm (mz := mz) c1 hts
  obtain ⟨-, -, rq, hrq, cellB, g1, g2, g3, -⟩ := hR.2.2.2.1 b ci hkb hci
  have hcB : ∃ cellB : Cell, H[b]? = some cellB ∧ cellB.vm.isStatics = false ∧ s.vm.findClass mz.1.cls = some cellB.cls := ⟨cellB, g1, by rw [g3]; rfl, by rw [g2, ← hq]; exact (hKd.1.1 ci q hcl).2.1⟩
  have hrun := va_runVN (e := e) (below := below) (meth := meth) (locs := locs) (R := R) (cells := hT h - hT h0) (slots := hU h - hU h0) (g := F0 m pc ls (As.reverse ++ .ref b :: rest)) (As := As) (rest := rest) (bytes := mz.2.1) (maxL := mz.2.2.1) (ret := mz.2.2.2.1) (C := mz.1.cls) (host := host) (rm := ({ frames := mz.2.2.2.2.1, cells := hT h1 - hT h, slots := hU h1 - hU h, locals := mz.2.2.2.2.2 } : Room)) (n := n) (H := H) (Ts := lw_tb) ⟨hx, hb, hml, hown, hts⟩ hM ⟨⟨⟨rfl, rfl, (by show mz.2.2.2.2.1 + 1 ≤ R.frames; omega), (by show 8 + (mz.2.2.1 + 11) + mz.2.2.2.2.2 ≤ R.locals; omega), hws, List.mem_cons_self⟩, hts _ c1, hts _ c2, ⟨c3, c4⟩, hlen, va_Nw.use rfl (hKd.2.2.2.1 _ hlk)⟩, hts _ hk, hts _ hk2⟩ ⟨pcA_blind, hcB, fun U hU hW => ⟨rfl, by rw [hU]; exact hR, hKd.warm hW⟩⟩ rfl hn hl.1 rfl (lv_room hcat) hd ⟨by omega, by omega⟩
  intro T hT1 X
  obtain ⟨v, st₀, t, T', L', hz, X', hL', x1, x2, ⟨hv, hrep⟩, stp⟩ := hrun T hT1 X
  cases hv
  rw [show hT h - hT h0 + (hT h1 - hT h) = hT h1 - hT h0 by omega, show hU h - hU h0 + (hU h1 - hU h) = hU h1 - hU h0 by omega] at X'
  obtain ⟨t2, a1, b1⟩ := kk T'.heap (locs ++ L') ls (by rw [x1]; exact hrep) (t_lL (free := Lk G) hL hL') hl T' rfl X'
  exact ⟨t2, stp t2 a1, b1⟩
theorem g_callI {G : Gl} {mi mz : MI} {h0 h : Hp} {P P1 : Option Value → Hp → Prop} {pc : Nat} {L : List (Nat × Value)} {st : List Value} {idx n : Nat} {As rest : List Value} {b : Nat} (hE : Ex G mz (.ref b :: As) h P1) (hcw : cW mi mz n) (hlk : Cond.methodLink mi.1.cls idx mz.1 ∈ lw_tb) (hk : Cond.instanceMethod mz.1 ∈ lw_tb) (hk2 : mz.1.name = "<init>") (hk3 : mz.2.2.2.1 = none) (hd : decode mi.2.1 pc = .ok (.invokespecial idx, 3)) (hst : st = As.reverse ++ .ref b :: rest) (hn : As.length = n) (hcat : (rest.map fun v => v.category).sum ≤ 8)
    (k : ∀ r h1, P1 r h1 → rOk mz.2.2.2.1 r → Go G mi h0 P h1 (pc + 3) L (r.toList ++ rest)) : Go G mi h0 P h pc L st := by
  obtain ⟨r, h1, ⟨hro, e1, e2, hM⟩, hp⟩ := hE
  subst hst
  refine Go.step e1 e2 (fun p e R s m args below meth c Q H locs ls hC f1 f2 b1 b2 b3 b4 hR hL hl kk => ?_) (k r h1 hp hro)
  obtain ⟨c1, c2, ⟨c3, c4, c5⟩, c6, c7⟩ := hcw
  obtain ⟨hx, hb, hml, hown, hts, -, -, -, hKd⟩ := id hC
  have hlen : ∀ sig, parseMethodDescriptor mz.1.desc = some sig → n = sig.parameters.length := fun sig h => by
    rw [h] at c5
    exact (Option.some.inj c5).symm
  have hws := wsy_warm (mz := mz) c1 hts
  rw [hk3] at c1
  have hcm : Cond.code mz.1 mz.2.1 mz.2.2.1 none ∈ wsy mz := by unfold wsy; rw [hk3]; exact List.mem_cons_self
  have hrun := va_runI (e := e) (below := below) (meth := meth) (locs := locs) (R := R) (cells := hT h - hT h0) (slots := hU h - hU h0) (g := F0 m pc ls (As.reverse ++ .ref b :: rest)) (As := As) (rest := rest) (bytes := mz.2.1) (maxL := mz.2.2.1) (rm := ({ frames := mz.2.2.2.2.1, cells := hT h1 - hT h, slots := hU h1 - hU h, locals := mz.2.2.2.2.2 } : Room)) (n := n) (H := H) (Ts := lw_tb) ⟨hx, hb, hml, hown, hts⟩ hM ⟨⟨rfl, rfl, (by show mz.2.2.2.2.1 + 1 ≤ R.frames; omega), (by show 8 + (mz.2.2.1 + 11) + mz.2.2.2.2.2 ≤ R.locals; omega), hws, hcm, hts _ c1, hts _ c2, ⟨c3, c4⟩, hlen, hts _ hlk⟩, hk2, hts _ hk⟩ ⟨pcA_blind, fun U hU hW => ⟨rfl, by rw [hU]; exact hR, hKd.warm hW⟩⟩ rfl hn hl.1 rfl (lv_room hcat) hd ⟨by omega, by omega⟩
  intro T hT1 X
  obtain ⟨v, st₀, t, T', L', hz, X', hL', x1, x2, ⟨hv, hrep⟩, stp⟩ := hrun T hT1 X
  cases hv
  rw [show hT h - hT h0 + (hT h1 - hT h) = hT h1 - hT h0 by omega, show hU h - hU h0 + (hU h1 - hU h) = hU h1 - hU h0 by omega] at X'
  obtain ⟨t2, a1, b1⟩ := kk T'.heap (locs ++ L') ls (by rw [x1]; exact hrep) (t_lL (free := Lk G) hL hL') hl T' rfl X'
  exact ⟨t2, stp t2 a1, b1⟩
theorem g_callIN {G : Gl} {mi mz : MI} {h0 h : Hp} {P P1 : Option Value → Hp → Prop} {pc : Nat} {L : List (Nat × Value)} {st : List Value} {idx n : Nat} {As rest : List Value} {b : Nat} {host : String} (hE : Ex G mz (.ref b :: As) h P1) (hcw : cW mi mz n) (hlk : (mi.1.cls, idx, mz.1, host) ∈ nestM) (hk : Cond.instanceMethod mz.1 ∈ lw_tb) (hk2 : mz.1.name = "<init>") (hk3 : mz.2.2.2.1 = none) (hd : decode mi.2.1 pc = .ok (.invokespecial idx, 3)) (hst : st = As.reverse ++ .ref b :: rest) (hn : As.length = n) (hcat : (rest.map fun v => v.category).sum ≤ 8)
    (k : ∀ r h1, P1 r h1 → rOk mz.2.2.2.1 r → Go G mi h0 P h1 (pc + 3) L (r.toList ++ rest)) : Go G mi h0 P h pc L st := by
  obtain ⟨r, h1, ⟨hro, e1, e2, hM⟩, hp⟩ := hE
  subst hst
  refine Go.step e1 e2 (fun p e R s m args below meth c Q H locs ls hC f1 f2 b1 b2 b3 b4 hR hL hl kk => ?_) (k r h1 hp hro)
  obtain ⟨c1, c2, ⟨c3, c4, c5⟩, c6, c7⟩ := hcw
  obtain ⟨hx, hb, hml, hown, hts, -, -, -, hKd⟩ := id hC
  have hlen : ∀ sig, parseMethodDescriptor mz.1.desc = some sig → n = sig.parameters.length := fun sig h => by
    rw [h] at c5
    exact (Option.some.inj c5).symm
  have hws := wsy_warm (mz := mz) c1 hts
  rw [hk3] at c1
  have hcm : Cond.code mz.1 mz.2.1 mz.2.2.1 none ∈ wsy mz := by unfold wsy; rw [hk3]; exact List.mem_cons_self
  have hrun := va_runIN (e := e) (below := below) (meth := meth) (locs := locs) (R := R) (cells := hT h - hT h0) (slots := hU h - hU h0) (g := F0 m pc ls (As.reverse ++ .ref b :: rest)) (As := As) (rest := rest) (bytes := mz.2.1) (maxL := mz.2.2.1) (host := host) (rm := ({ frames := mz.2.2.2.2.1, cells := hT h1 - hT h, slots := hU h1 - hU h, locals := mz.2.2.2.2.2 } : Room)) (n := n) (H := H) (Ts := lw_tb) ⟨hx, hb, hml, hown, hts⟩ hM ⟨⟨⟨rfl, rfl, (by show mz.2.2.2.2.1 + 1 ≤ R.frames; omega), (by show 8 + (mz.2.2.1 + 11) + mz.2.2.2.2.2 ≤ R.locals; omega), hws, hcm⟩, hts _ c1, hts _ c2, ⟨c3, c4⟩, hlen, va_Nw.use rfl (hKd.2.2.2.1 _ hlk)⟩, hk2, hts _ hk⟩ ⟨pcA_blind, fun U hU hW => ⟨rfl, by rw [hU]; exact hR, hKd.warm hW⟩⟩ rfl hn hl.1 rfl (lv_room hcat) hd ⟨by omega, by omega⟩
  intro T hT1 X
  obtain ⟨v, st₀, t, T', L', hz, X', hL', x1, x2, ⟨hv, hrep⟩, stp⟩ := hrun T hT1 X
  cases hv
  rw [show hT h - hT h0 + (hT h1 - hT h) = hT h1 - hT h0 by omega, show hU h - hU h0 + (hU h1 - hU h) = hU h1 - hU h0 by omega] at X'
  obtain ⟨t2, a1, b1⟩ := kk T'.heap (locs ++ L') ls (by rw [x1]; exact hrep) (t_lL (free := Lk G) hL hL') hl T' rfl X'
  exact ⟨t2, stp t2 a1, b1⟩
