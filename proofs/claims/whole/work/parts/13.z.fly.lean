/-! exceptions: the search for a handler whose class is or isn't yet resolved -/
def Sk (e : Env) (s : State) (f : JFrame) (a : Addr) (t : List ExceptionTableEntry) (h : Handler) (vm' : Vm) : Prop :=
  ∀ (Q : Handler → Pre) (E : CtlPost) (d : Bool) (acts : List Action), wp (findHandler.go f a t) Q E e d acts s ↔ Q h d acts (s.setVm vm')
theorem Sk.hit {e : Env} {s : State} {f : JFrame} {a : Addr} {x : ExceptionTableEntry} {t : List ExceptionTableEntry} {c : ClassId} {cell : Cell} {k1 k2 : Class} (hx : covers x f.pc = true) (h0 : x.catchType ≠ 0)
    (hl : s.vm.ClassLinks e.platform f.method.cls x.catchType c) (hcell : s.heap[a]? = some cell) (hobj : ∀ k, cell.vm ≠ .statics k) (hk : s.vm.classes[cell.cls]? = some k1) (hc : s.vm.classes[c]? = some k2) (hfit : s.vm.assignable cell.cls c = true) :
    Sk e s f a (x :: t) (.found x.handlerPc) (s.vm.noted f.method.cls x.catchType (.cls c)) := by
  intro Q E d acts
  simp only [covers] at hx
  obtain ⟨ha, ht⟩ := (resolveClass_links e.toSetting hl).op (op := VmOp.resolveClass f.method.cls x.catchType) rfl
  have hal : s.vm.Alike (s.vm.noted f.method.cls x.catchType (.cls c)) := (Vm.Alike.refl s.vm).noted _ _ _
  obtain ⟨j1, hj1, -⟩ := hal.2.2 _ _ hk
  obtain ⟨j2, hj2, -⟩ := hal.2.2 _ _ hc
  have hf2 : (s.vm.noted f.method.cls x.catchType (.cls c)).assignable cell.cls c = true := by rw [hal.assignable]; exact hfit
  simp [findHandler.go, hx, h0, ha, ht, hcell, hobj, hj1, hj2, hf2, VmOp.dirties, VmOp.acts]
theorem Sk.miss {e : Env} {s : State} {f : JFrame} {a : Addr} {x : ExceptionTableEntry} {t : List ExceptionTableEntry} {c : ClassId} {cell : Cell} {k1 k2 : Class} {h : Handler} {vm' : Vm} (hx : covers x f.pc = true) (h0 : x.catchType ≠ 0)
    (hl : s.vm.ClassLinks e.platform f.method.cls x.catchType c) (hcell : s.heap[a]? = some cell) (hobj : ∀ k, cell.vm ≠ .statics k) (hk : s.vm.classes[cell.cls]? = some k1) (hc : s.vm.classes[c]? = some k2) (hfit : s.vm.assignable cell.cls c = false)
    (k : Sk e (s.setVm (s.vm.noted f.method.cls x.catchType (.cls c))) f a t h vm') : Sk e s f a (x :: t) h vm' := by
  intro Q E d acts
  have kk := k Q E d acts
  rw [State.setVm_twice] at kk
  rw [← kk]
  simp only [covers] at hx
  obtain ⟨ha, ht⟩ := (resolveClass_links e.toSetting hl).op (op := VmOp.resolveClass f.method.cls x.catchType) rfl
  have hal : s.vm.Alike (s.vm.noted f.method.cls x.catchType (.cls c)) := (Vm.Alike.refl s.vm).noted _ _ _
  obtain ⟨j1, hj1, -⟩ := hal.2.2 _ _ hk
  obtain ⟨j2, hj2, -⟩ := hal.2.2 _ _ hc
  have hf2 : (s.vm.noted f.method.cls x.catchType (.cls c)).assignable cell.cls c = false := by rw [hal.assignable]; exact hfit
  simp [findHandler.go, hx, h0, ha, ht, hcell, hobj, hj1, hj2, hf2, VmOp.dirties, VmOp.acts]
theorem sk_caught {tb : Tables} {e : Env} {s target : State} {g : JFrame} {c : Code} {meth : Method} {below : List Frame} {a : Addr} {pc : Nat} {vm' : Vm} (h : At s g.method c below) (hm : s.vm.method? g.method = some meth) (hc : meth.code = some c)
    (hs : Sk e ((s.setTop g).pushFrame (.throwing a)) g a c.exceptionTable.toList (.found pc) vm') (hrest : Steps tb e below ((s.setVm vm').setTop { g with pc := pc, stack := [.ref a] }) target) :
    Steps tb e below ((s.setTop g).pushFrame (.throwing a)) target := by
  obtain ⟨hgo, hw⟩ := h.throwing a
  have hfind : ∀ (Q : Handler → Pre) (E : CtlPost) (d : Bool) (acts : List Action), wp (findHandler g a) Q E e d acts ((s.setTop g).pushFrame (.throwing a)) ↔ Q (.found pc) d acts (((s.setTop g).pushFrame (.throwing a)).setVm vm') := fun Q E d acts => by
    rw [Jvm.W.findHandler_eq (s := (s.setTop g).pushFrame (.throwing a)) (by rw [Stand.throwing_vm]; exact hm) hc]
    exact hs Q E d acts
  obtain ⟨g₀, hg⟩ := Option.isSome_iff_exists.mp h.top
  obtain ⟨r, hr⟩ := State.topJava?_eq_some.mp hg
  have step : (stepThrowing e ((s.setTop g).pushFrame (.throwing a)) a (.java g :: r)).Is ((((s.setTop g).pushFrame (.throwing a)).setVm vm').setFrames (.java { g with pc := pc, stack := [.ref a] } :: r)) [] := by
    simp only [stepThrowing, searchFrame, vmDo]
    generalize hz : Sem.go _ e false [] ((s.setTop g).pushFrame (.throwing a)) = res
    obtain ⟨as, rfl, hb⟩ := Sem.eq_ok_of hz (a := Handler.found pc) (s' := ((s.setTop g).pushFrame (.throwing a)).setVm vm') (acts' := []) (by simp [hfind _ _ _ _])
    exact ⟨rfl, hb⟩
  refine Steps.head hgo hw ?_
  rw [stepThread_throwing (frames_entered h.top _), hr, List.tail_cons, step.1]
  have hr2 : (s.setVm vm').frames = .java g₀ :: r := hr
  rw [State.setTop_of_frames _ hr2] at hrest
  have e1 : ∀ (u : State) (F F2 : List Frame), ((u.setFrames F).setVm vm').setFrames F2 = (u.setVm vm').setFrames F2 := fun u F F2 => by
    rw [show (u.setFrames F).setVm vm' = (u.setVm vm').setFrames F from rfl, State.setFrames_setFrames]
  rw [State.pushFrame, e1, State.setTop_of_frames _ hr, e1]
  exact hrest
/-! a method that throws -/
def upX : List String := ["java/lang/RuntimeException", "java/lang/Exception"]
def Tq (G : Gl) (h : Hp) (X : String) : Array Value → State → Outcome → State → Prop := fun _ st o t =>
  o = .threw (hT h) ∧ Rp G (nw h 0 0 6) t.heap ∧ (∃ ce, t.heap[hT h]? = some ce ∧ st.vm.findClass X = some ce.cls ∧ ce.vm = .none) ∧ st.WarmedH t.vm ∧ st.sameButNew ({ t with vm := st.vm } : State) [] 1 6
def Tv (G : Gl) (mi : MI) (as : List Value) (h : Hp) (X : String) : Prop :=
  MetFree G.1 mi.1 (headSpec (wsy mi) ({ frames := mi.2.2.2.2.1, cells := 1, slots := 6, locals := mi.2.2.2.2.2 })) (pcA G as h) (fun _ _ _ _ _ => True) (Tq G h X)
theorem heap_kept {s t : State} {k n : Nat} (h : s.sameButNew t [] k n) : ∀ q : Nat, q < s.heap.size → t.heap[q]? = s.heap[q]? := by
  intro q hq
  obtain ⟨c', h1, h2, h3, h4⟩ := h.2.2.2.2.2 q (s.heap[q]) (by simp [hq])
  have hs : c'.slots = (s.heap[q]).slots := by
    refine Array.ext_getElem? fun i => ?_
    exact h4 i (by simp)
  rw [h1, h2, hs]
  simp [hq]
theorem zq_isRef {args : Array Value} {C n d : String} {s : State} {H0 : Heap} (h : va_Zq C n d (fun _ => False) s H0) (hk : ∀ q : Nat, q < H0.size → s.heap[q]? = H0[q]?) : (Cond.isRef (.static C n d)).before args s = true := by
  have key : ∀ v, va_Z C n d v (fun _ => False) s H0 → (Term.static C n d).eval args s none [] s = some v := by
    intro v hz
    obtain ⟨cf, kf, fi, f, a, cell, h1, h2, h3, h4, h5, h6, h7, h8⟩ := hz
    exact Term.static_eval h1 h2 h4 (by rw [hk a (Array.getElem?_eq_some_iff.mp h5).1]; exact h5) h6 h7
  rcases h with h | ⟨t, h⟩
  · simp [Cond.before, Cond.holds, Cond.value, key _ h]
  · simp [Cond.before, Cond.holds, Cond.value, key _ h]
theorem thr_W {G : Gl} {mi : MI} {p : Program} {e : Env} {R : Room} {s : State} {m : MethodId} {args : Array Value} {below : List Frame} {meth : Method} {c : Code} {X tx : String} {ic0 k ic pc : Nat} {ls : Array Slot} {h : Hp} {H : Heap}
    (hC : Cx G mi p s m args meth c) (hNo : c.exceptionTable.isEmpty = true)
    (w0 : Cond.classLink mi.1.cls ic0 X ∈ lw_tb) (w1 : Cond.instantiable X 6 ∈ lw_tb) (w2 : Cond.initialized X ∈ lw_tb) (wS : (mi.1.cls, k, tx) ∈ strK)
    (wO : ∀ w ∈ Bundle.ownAtoms mi.1.cls ic X upX, w ∈ lw_tb ∨ w = .isRef (.static "java/lang/Throwable" "UNASSIGNED_STACK" "[Ljava/lang/StackTraceElement;") ∨ w = .isRef (.static "java/lang/Throwable" "SUPPRESSED_SENTINEL" "Ljava/util/List;"))
    (hfit : Bundle.fit X = true)
    (d0 : decode mi.2.1 pc = .ok (.new ic0, 3)) (d1 : decode mi.2.1 (pc + 3) = .ok (.dup, 1)) (d2 : decode mi.2.1 (pc + 4) = .ok (.ldc k, 2)) (d3 : decode mi.2.1 (pc + 6) = .ok (.invokespecial ic, 3)) (d4 : decode mi.2.1 (pc + 9) = .ok (.athrow, 1))
    (hR : Rp G h H) (hsz : ls.size = mi.2.2.1) (hfr : 6 ≤ R.frames) (hlo : 90 ≤ R.locals) (hce : 1 ≤ R.cells) (hsl : 6 ≤ R.slots) :
    W p G.1 e R s m args below meth c H [] 0 0 (fun t => ∃ o, t.status = .running ∧ Ended t below o ∧ Tq G h X args s o t) (F0 m pc ls []) := by
  intro T hTT X0
  obtain ⟨hx, hb, hml, hown, hts, hret, hlk, hnme, hKd⟩ := hC
  have hKx := hKd.2.2.2.2
  have htr : e.platform.stackTraces = false := Launch.traces_off hKx.1 X0.admits
  have hk0 := heap_kept X0.same
  have hz0 : T.heap.size = s.heap.size := Nat.le_antisymm X0.same.2.2.1 X0.same.2.1
  have hTs : T.heap = s.heap := by
    refine Array.ext_getElem? fun i => ?_
    by_cases hi : i < s.heap.size
    · exact hk0 i hi
    · rw [Array.getElem?_eq_none (by omega), Array.getElem?_eq_none (by omega)]
  have hRs : Rp G h s.heap := by rw [← hTs, hTT]; exact hR
  have hTh : hT h = T.heap.size := by rw [hz0]; exact hRs.1
  obtain ⟨vm₁, cX, kX, hfX, hkX, -, -, X₁, st1⟩ := X0.newCold hx (own := mi.1.cls) (C := X) (index := ic0) (n := 6) hown (hts _ w0) (hts _ w1) (hts _ w2) (g := F0 m pc ls []) rfl (by rw [hb]; exact d0) (by omega) (by omega)
  generalize hT1 : (T.setVm vm₁).pushCell { cls := cX, slots := kX.instanceTypes.map defaultValue, vm := .none } = T1 at X₁ st1
  have hA : T1.heap[T.heap.size]? = some (freshCell cX kX) := by rw [← hT1]; exact State.heap_pushCell_size _ _
  obtain ⟨q, hZ⟩ := hKx.2.2.2.2 _ wS
  have atoms : ∀ a ∈ Bundle.ownAtoms mi.1.cls ic X upX, a.before args s = true := by
    intro a ha
    rcases wO a ha with h1 | rfl | rfl
    · exact hts _ h1
    · exact zq_isRef hKx.2.1 hRs.2.2.1
    · exact zq_isRef hKx.2.2.1 hRs.2.2.1
  obtain ⟨U, hsteps, hrun, hend, hW, hsm, ce, hce1, K⟩ := X₁.ctorThrowS hx htr (own := mi.1.cls) (cls := X) (names := upX) (ic := ic) hown hfit (by decide +kernel) atoms (fun y hy => by cases hy) hfX hkX (a := T.heap.size) hA (by omega) (msg := .ref q) rfl
    (g := F0 m (pc + 6) ls [.ref q, .ref T.heap.size, .ref T.heap.size]) rfl (by rw [hml]; exact hsz) rfl rfl (rest := []) rfl (by rw [hb]; exact d3) (by rw [hb]; exact d4) (covers_of_empty hNo _) (by show 2 + 3 < R.frames; omega) (by show 0 + 1 + (13 * (2 + 1) + 42) ≤ R.locals; omega)
  refine ⟨U, ?_, .threw T.heap.size, hrun, hend, ?_⟩
  · refine st1 _ ?_
    have st2 := X₁.ldcString hx hown (text := tx) (a := q) hZ.1 hZ.2 (g := F0 m (pc + 4) ls [.ref T.heap.size, .ref T.heap.size]) rfl (by rw [hb]; exact d2) U hsteps
    show Steps p.tables e below (T1.setTop (F0 m (pc + 3) ls [.ref T.heap.size])) U
    jvm_step X₁.here [X₁.here.top, hx, hb, d1, Value.category]
    exact st2
  · refine ⟨by rw [hTh], ?_, ?_, hW, hsm⟩
    · have hUk := heap_kept hsm
      have hUz : U.heap.size = s.heap.size + 1 := by
        have h1 : U.heap.size ≤ s.heap.size + 1 := hsm.2.2.1
        have h2 := (Array.getElem?_eq_some_iff.mp hce1).1
        omega
      exact hRs.grown (kd := 0) (n := 0) (u := 6) (by rw [hUz, hRs.1]) (fun q hq => hUk q (by rw [hRs.1] at hq; exact hq)) (fun ci h1 => by omega) (fun h1 => by omega)
    · exact ⟨ce, by rw [hTh]; exact hce1, K.cls, K.vm⟩
def G0 (G : Gl) : Gl := (G.1, G.2.1, G.2.2.1, G.2.2.2.1, False, gB G, gL G, gX G)
theorem Tv.of {G : Gl} {mi : MI} {as : List Value} {h : Hp} {X tx : String} {ic0 k ic pc : Nat} (hy : plainName mi.1.cls = true) (hlen : (lg_sl as).length ≤ mi.2.2.1) (hpc : pc < 65536)
    (w0 : Cond.classLink mi.1.cls ic0 X ∈ lw_tb) (w1 : Cond.instantiable X 6 ∈ lw_tb) (w2 : Cond.initialized X ∈ lw_tb) (wS : (mi.1.cls, k, tx) ∈ strK)
    (wO : ∀ w ∈ Bundle.ownAtoms mi.1.cls ic X upX, w ∈ lw_tb ∨ w = .isRef (.static "java/lang/Throwable" "UNASSIGNED_STACK" "[Ljava/lang/StackTraceElement;") ∨ w = .isRef (.static "java/lang/Throwable" "SUPPRESSED_SENTINEL" "Ljava/util/List;"))
    (hfit : Bundle.fit X = true)
    (d0 : decode mi.2.1 pc = .ok (.new ic0, 3)) (d1 : decode mi.2.1 (pc + 3) = .ok (.dup, 1)) (d2 : decode mi.2.1 (pc + 4) = .ok (.ldc k, 2)) (d3 : decode mi.2.1 (pc + 6) = .ok (.invokespecial ic, 3)) (d4 : decode mi.2.1 (pc + 9) = .ok (.athrow, 1))
    (hfr : 6 ≤ mi.2.2.2.2.1) (hlo : 90 ≤ mi.2.2.2.2.2) (kk : Go (G0 G) mi h (pT pc h) h 0 (lv_args 0 as) []) : Tv G mi as h X := by
  obtain ⟨r, h', ⟨-, h2, h3, h4⟩, hr, hh⟩ := kk
  subst hr
  have hh2 := hh.symm
  subst hh2
  refine MetFree.of_bodyS (code := mi.2.1) (maxLocals := mi.2.2.1) (ret := mi.2.2.2.1) hy ?_ ?_
  · intro args s m hh hn
    obtain ⟨meth, c, q1, q2, q3, q4, q5, q6, -, -⟩ := Cond.code_spec hn (atoms_spec (ws := wsy mi) hh _ List.mem_cons_self)
    exact ⟨meth, c, q1, q2, q3, q4, q5, q6⟩
  · intro p e s m args below meth c s₁ B hml hP _
    obtain ⟨rfl, hR, hKd⟩ := hP
    have hts := atoms_spec (ws := wsy mi) B.pre
    have hC : Cx G mi p s m as.toArray meth c := ⟨B.exec, B.bytes, hml, findClass_of_methodNamed B.named, fun w hw => hts w (List.mem_cons_of_mem _ hw), B.returns, B.notSynchronized, ⟨(name_of_methodNamed B.named B.method).1, B.named⟩, hKd⟩
    have hNo := B.noHandlers (hts _ List.mem_cons_self)
    have key := h4 p e (headSpec (wsy mi) ({ frames := mi.2.2.2.2.1, cells := 1, slots := 6, locals := mi.2.2.2.2.2 })).room s m as.toArray below meth c (fun t => ∃ o, t.status = .running ∧ Ended t below o ∧ Tq G h X as.toArray s o t) s.heap [] _
      hC (Nat.le_refl _) (Nat.le_refl _) (by show hT h ≤ hT h + 1; omega) (by show hU h ≤ hU h + 6; omega) (Nat.le_refl _) (Nat.le_refl _) ?_ hR (fun q hq => by cases hq) (lv_entry as hlen)
    · rw [Nat.sub_self, Nat.sub_self] at key
      have hh0 : s₁.heap = s.heap := by rw [B.state]; rfl
      obtain ⟨t, a1, o, b1, b2, b3⟩ := key s₁ hh0 (Stand.of_body B)
      exact ⟨t, o, by rw [lg_entry_eq]; exact a1, b1, b2, b3⟩
    · intro pc2 ls H locs hR2 hL hsz he
      have hl0 : locs = [] := by
        cases locs with
        | nil => rfl
        | cons q qs => exact (hL q List.mem_cons_self).1.elim
      subst hl0
      have hpc2 : pc2 = pc := by
        have : pc2 = (UInt32.ofNat pc).toNat := he
        rw [this]
        show (BitVec.ofNat 32 pc).toNat = pc
        rw [BitVec.toNat_ofNat]
        omega
      subst hpc2
      rw [Nat.sub_self, Nat.sub_self]
      exact thr_W hC hNo w0 w1 w2 wS wO hfit d0 d1 d2 d3 d4 hR2 hsz hfr hlo (by show 1 ≤ 1; omega) (by show 6 ≤ 6; omega)
