/-! exceptions: the search for a handler whose class is or isn't yet resolved -/
def Sk (e : Env) (s : State) (f : JFrame) (a : Addr) (t : List ExceptionTableEntry) (h : Handler) (vm' : Vm) : Prop :=
  ∀ (Q : Handler → Pre) (E : CtlPost) (d : Bool) (acts : List Action), wp (findHandler.go f a t) Q E e d acts s ↔ Q h d acts (s.setVm vm')
theorem Sk.hit {e : Env} {s : State} {f : JFrame} {a : Addr} {x : ExceptionTableEntry} {t : List ExceptionTableEntry} {c : ClassId} {cell : Cell} {k1 k2 : Class} (hx : covers x f.pc = true) (h0 : x.catchType ≠ 0)
    (hl : s.vm.ClassLinks e.platform f.method.cls x.catchType c) (hcell : s.heap[a]? = some cell) (hobj : ∀ k, cell.vm ≠ .statics k) (hk : s.vm.classes[cell.cls]? = some k1) (hc : s.vm.classes[c]? = some k2) (hfit : s.vm.assignable cell.cls c = true) :
    Sk e s f a (x :: t) (.found x.handlerPc) (s.vm.noted f.method.cls x.catchType (.cls c)) := by
  intro Q E d acts
  simp only [covers] at hx
  obtain ⟨ha, ht⟩ := (resolveClass_links e.toSetting hl).op (op := VmOp.resolveClass f.method.cls x.catchType) rfl
  have hal : s.vm.Alike (s.vm.noted f.method.cls x.catchType (.cls c)) := (Vm.Alike.refl s.vm).noted _ _ _
  obtain ⟨j1, hj1, -⟩ := hal.2.2 _ _ hk
  obtain ⟨j2, hj2, -⟩ := hal.2.2 _ _ hc
  have hf2 : (s.vm.noted f.method.cls x.catchType (.cls c)).assignable cell.cls c = true := by rw [hal.assignable]; exact hfit
  simp [findHandler.go, hx, h0, ha, ht, hcell, hobj, hj1, hj2, hf2, VmOp.dirties, VmOp.acts]
theorem Sk.miss {e : Env} {s : State} {f : JFrame} {a : Addr} {x : ExceptionTableEntry} {t : List ExceptionTableEntry} {c : ClassId} {cell : Cell} {k1 k2 : Class} {h : Handler} {vm' : Vm} (hx : covers x f.pc = true) (h0 : x.catchType ≠ 0)
    (hl : s.vm.ClassLinks e.platform f.method.cls x.catchType c) (hcell : s.heap[a]? = some cell) (hobj : ∀ k, cell.vm ≠ .statics k) (hk : s.vm.classes[cell.cls]? = some k1) (hc : s.vm.classes[c]? = some k2) (hfit : s.vm.assignable cell.cls c = false)
    (k : Sk e (s.setVm (s.vm.noted f.method.cls x.catchType (.cls c))) f a t h vm') : Sk e s f a (x :: t) h vm' := by
  intro Q E d acts
  have kk := k Q E d acts
  rw [State.setVm_twice] at kk
  rw [← kk]
  simp only [covers] at hx
  obtain ⟨ha, ht⟩ := (resolveClass_links e.toSetting hl).op (op := VmOp.resolveClass f.method.cls x.catchType) rfl
  have hal : s.vm.Alike (s.vm.noted f.method.cls x.catchType (.cls c)) := (Vm.Alike.refl s.vm).noted _ _ _
  obtain ⟨j1, hj1, -⟩ := hal.2.2 _ _ hk
  obtain ⟨j2, hj2, -⟩ := hal.2.2 _ _ hc
  have hf2 : (s.vm.noted f.method.cls x.catchType (.cls c)).assignable cell.cls c = false := by rw [hal.assignable]; exact hfit
  simp [findHandler.go, hx, h0, ha, ht, hcell, hobj, hj1, hj2, hf2, VmOp.dirties, VmOp.acts]
theorem sk_caught {tb : Tables} {e : Env} {s target : State} {g : JFrame} {c : Code} {meth : Method} {below : List Frame} {a : Addr} {pc : Nat} {vm' : Vm} (h : At s g.method c below) (hm : s.vm.method? g.method = some meth) (hc : meth.code = some c)
    (hs : Sk e ((s.setTop g).pushFrame (.throwing a)) g a c.exceptionTable.toList (.found pc) vm') (hrest : Steps tb e below ((s.setVm vm').setTop { g with pc := pc, stack := [.ref a] }) target) :
    Steps tb e below ((s.setTop g).pushFrame (.throwing a)) target := by
  obtain ⟨hgo, hw⟩ := h.throwing a
  have hfind : ∀ (Q : Handler → Pre) (E : CtlPost) (d : Bool) (acts : List Action), wp (findHandler g a) Q E e d acts ((s.setTop g).pushFrame (.throwing a)) ↔ Q (.found pc) d acts (((s.setTop g).pushFrame (.throwing a)).setVm vm') := fun Q E d acts => by
    rw [Jvm.W.findHandler_eq (s := (s.setTop g).pushFrame (.throwing a)) (by rw [Stand.throwing_vm]; exact hm) hc]
    exact hs Q E d acts
  obtain ⟨g₀, hg⟩ := Option.isSome_iff_exists.mp h.top
  obtain ⟨r, hr⟩ := State.topJava?_eq_some.mp hg
  have step : (stepThrowing e ((s.setTop g).pushFrame (.throwing a)) a (.java g :: r)).Is ((((s.setTop g).pushFrame (.throwing a)).setVm vm').setFrames (.java { g with pc := pc, stack := [.ref a] } :: r)) [] := by
    simp only [stepThrowing, searchFrame, vmDo]
    generalize hz : Sem.go _ e false [] ((s.setTop g).pushFrame (.throwing a)) = res
    obtain ⟨as, rfl, hb⟩ := Sem.eq_ok_of hz (a := Handler.found pc) (s' := ((s.setTop g).pushFrame (.throwing a)).setVm vm') (acts' := []) (by simp [hfind _ _ _ _])
    exact ⟨rfl, hb⟩
  refine Steps.head hgo hw ?_
  rw [stepThread_throwing (frames_entered h.top _), hr, List.tail_cons, step.1]
  have hr2 : (s.setVm vm').frames = .java g₀ :: r := hr
  rw [State.setTop_of_frames _ hr2] at hrest
  have e1 : ∀ (u : State) (F F2 : List Frame), ((u.setFrames F).setVm vm').setFrames F2 = (u.setVm vm').setFrames F2 := fun u F F2 => by
    rw [show (u.setFrames F).setVm vm' = (u.setVm vm').setFrames F from rfl, State.setFrames_setFrames]
  rw [State.pushFrame, e1, State.setTop_of_frames _ hr, e1]
  exact hrest
/-! a method that throws -/
def upX : List String := ["java/lang/RuntimeException", "java/lang/Exception"]
/-- the words of an exception that aren't of the tables alone -/
def xW : List Cond := [.isRef (.static "java/lang/Throwable" "UNASSIGNED_STACK" "[Ljava/lang/StackTraceElement;"), .isRef (.static "java/lang/Throwable" "SUPPRESSED_SENTINEL" "Ljava/util/List;"), .laysStatic "java/lang/Throwable" "UNASSIGNED_STACK" "[Ljava/lang/StackTraceElement;", .laysStatic "java/lang/Throwable" "SUPPRESSED_SENTINEL" "Ljava/util/List;"] ++ exN.map (fun X => .castable X X) ++ exD.map (fun y => .declares y)
def Tq (G : Gl) (h : Hp) (X : String) : Array Value → State → Outcome → State → Prop := fun _ st o t =>
  o = .threw (hT h) ∧ Rp G (nw h 0 0 6) t.heap ∧ (∃ ce, t.heap[hT h]? = some ce ∧ st.vm.findClass X = some ce.cls ∧ ce.vm = .none) ∧ st.WarmedH t.vm ∧ st.sameButNew ({ t with vm := st.vm } : State) [] 1 6
def Tv (G : Gl) (mi : MI) (as : List Value) (h : Hp) (X : String) : Prop :=
  MetFree G.1 mi.1 (headSpec (wsy mi) ({ frames := mi.2.2.2.2.1, cells := 1, slots := 6, locals := mi.2.2.2.2.2 })) (pcA G as h) (fun _ _ _ _ _ => True) (Tq G h X)
theorem heap_kept {s t : State} {k n : Nat} (h : s.sameButNew t [] k n) : ∀ q : Nat, q < s.heap.size → t.heap[q]? = s.heap[q]? := by
  intro q hq
  obtain ⟨c', h1, h2, h3, h4⟩ := h.2.2.2.2.2 q (s.heap[q]) (by simp [hq])
  have hs : c'.slots = (s.heap[q]).slots := by
    refine Array.ext_getElem? fun i => ?_
    exact h4 i (by simp)
  rw [h1, h2, hs]
  simp [hq]
theorem zq_isRef {args : Array Value} {C n d : String} {s : State} {H0 : Heap} (h : va_Zq C n d (fun _ => False) s H0) (hk : ∀ q : Nat, q < H0.size → s.heap[q]? = H0[q]?) : (Cond.isRef (.static C n d)).before args s = true := by
  have key : ∀ v, va_Z C n d v (fun _ => False) s H0 → (Term.static C n d).eval args s none [] s = some v := by
    intro v hz
    obtain ⟨cf, kf, fi, f, a, cell, h1, h2, h3, h4, h5, h6, h7, h8⟩ := hz
    exact Term.static_eval h1 h2 h4 (by rw [hk a (Array.getElem?_eq_some_iff.mp h5).1]; exact h5) h6 h7
  rcases h with h | ⟨t, h⟩
  · simp [Cond.before, Cond.holds, Cond.value, key _ h]
  · simp [Cond.before, Cond.holds, Cond.value, key _ h]
theorem xW_ok {G : Gl} {args : Array Value} {s : State} (hKx : Kx G s) (hk : ∀ q : Nat, q < G.2.1.size → s.heap[q]? = G.2.1[q]?) : ∀ w ∈ xW, w.before args s = true := by
  intro w hw
  simp only [xW, exN, exD, List.map_cons, List.map_nil, List.cons_append, List.nil_append, List.mem_cons, List.not_mem_nil, or_false] at hw
  rcases hw with rfl | rfl | rfl | rfl | rfl | rfl | rfl | rfl | rfl | rfl
  · exact zq_isRef hKx.2.1 hk
  · exact zq_isRef hKx.2.2.1 hk
  · exact hKx.2.2.2.2.2.2.1.use hk
  · exact hKx.2.2.2.2.2.2.2.1.use hk
  · exact (hKx.2.2.2.2.2.2.2.2.1 _ (by decide)).use rfl
  · exact (hKx.2.2.2.2.2.2.2.2.1 _ (by decide)).use rfl
  · exact (hKx.2.2.2.2.2.2.2.2.1 _ (by decide)).use rfl
  · exact (hKx.2.2.2.2.2.2.2.2.2 _ (by decide)).use rfl
  · exact (hKx.2.2.2.2.2.2.2.2.2 _ (by decide)).use rfl
  · exact (hKx.2.2.2.2.2.2.2.2.2 _ (by decide)).use rfl
/-! an exception whose own constructor has another link than the common one -/
def nAtoms (own : String) (ic : Nat) (X : String) (ix : Nat) (bytes : ByteArray) : List Cond :=
  Bundle.throwableAtoms ++ Bundle.throwableSAtoms ++ Bundle.passSAtoms X "java/lang/RuntimeException" ix bytes ++ Bundle.chainSAtoms "java/lang/RuntimeException" ["java/lang/Exception"] ++
  [.methodLink own ic (Bundle.initS X), .instantiable X 6, .selects X Bundle.tFill0 Bundle.tFill0, .selects X Bundle.tFill Bundle.tFill,
   .lays X Bundle.tN "cause" "Ljava/lang/Throwable;", .lays X Bundle.tN "stackTrace" Bundle.steD, .lays X Bundle.tN "suppressedExceptions" Bundle.listD, .lays X Bundle.tN "detailMessage" "Ljava/lang/String;",
   .isRef (.static Bundle.tN "UNASSIGNED_STACK" Bundle.steD), .isRef (.static Bundle.tN "SUPPRESSED_SENTINEL" Bundle.listD),
   .fieldLink Bundle.tN 198 Bundle.tN "backtrace" "Ljava/lang/Object;", .lays Bundle.tN Bundle.tN "backtrace" "Ljava/lang/Object;", .lays X Bundle.tN "backtrace" "Ljava/lang/Object;"]
set_option maxHeartbeats 1000000 in
theorem throwN {p : Program} {l : Launch} {e : Env} {R : Room} {s : State} {m₀ : MethodId} {args : Array Value} {below : List Frame} {meth : Method} {c : Code} {T0 : State} {locs : List Loc} {cells slots : Nat} (X : Stand p l e R s m₀ args below meth c T0 locs cells slots) (hexec : p.tables.exec = Jvm.exec) (htr : e.platform.stackTraces = false)
    {own cls : String} {ix ic : Nat} {bytes : ByteArray} (hown : s.vm.findClass own = some m₀.cls) (hcls : Bundle.fit cls = true)
    (b0 : decode bytes 0 = .ok (.aload_n 0, 1)) (b1 : decode bytes 1 = .ok (.aload_n 1, 1)) (b2 : decode bytes 2 = .ok (.invokespecial ix, 3)) (b5 : decode bytes 5 = .ok (.return_, 1))
    (hN : ∀ w ∈ nAtoms own ic cls ix bytes, w.before args s = true) (hlocs : ∀ x ∈ locs, ∀ cell, s.heap[x.base]? = some cell → cell.vm.isStatics = false)
    {a : Addr} {cX : ClassId} {kX : Class} (hfoundX : s.vm.findClass cls = some cX) (hkX : s.vm.classes[cX]? = some kX) (hcell : T0.heap[a]? = some (freshCell cX kX)) (hnew : s.heap.size ≤ a) {msg : Value} (hmsg : msg.isRef = true)
    {g : JFrame} (hg : g.method = m₀) (hsize : g.locals.size = c.maxLocals) (hlocked : g.locked = none) (hentered : g.entered = []) {rest : List Value} (hstack : g.stack = msg :: .ref a :: .ref a :: rest)
    (hd6 : decode c.code g.pc = .ok (.invokespecial ic, 3)) (hd9 : decode c.code (g.pc + 3) = .ok (.athrow, 1)) (hout : ∀ x ∈ c.exceptionTable.toList, covers x (g.pc + 3) = false)
    (hRf : 5 < R.frames) (hRl : 2 * g.monitorRoom + ((Value.ref a :: rest).map fun v => v.category).sum + 81 ≤ R.locals) (hlocks : meth.locks = false) :
    ∃ U ce, Steps p.tables e below (T0.setTop g) U ∧ U.status = .running ∧ Ended U below (.threw a) ∧ s.WarmedH U.vm ∧ s.sameButNew ({ U with vm := s.vm } : State) locs cells slots ∧ U.heap[a]? = some ce ∧ s.vm.findClass cls = some ce.cls ∧ ce.vm = .none := by
  have ho : e.platform.frameOwnsMonitors = true := by rw [X.admits.platform]
  have hfz : e.platform.finalization = false := by rw [X.admits.platform]
  have hpl : e.platform.magicAccessors = ({} : Platform).magicAccessors := by rw [X.admits.platform]
  obtain ⟨Tc, Z0, hTc, -, Y⟩ := ThrowableC.of_atoms (args := args) ho hfz hpl (fun w hw => hN w (by simp [nAtoms, hw]))
  obtain ⟨Z, M, hZ, hM, hnZ⟩ := Init0T.ofS_atoms (args := args) hpl hTc Y (fun w hw => hN w (by simp [nAtoms, hw]))
  obtain ⟨Q1, Qs, hlen, hQ1, hQs, hQn, hlq1, hlq⟩ := Bundle.chainS (args := args) hpl hnZ ["java/lang/Exception"] "java/lang/RuntimeException" (by decide +kernel) (by decide +kernel) (fun w hw => hN w (by simp [nAtoms, hw]))
  obtain ⟨P1, hP1, hPn, hPs⟩ := PassC.ofS_atoms (args := args) (s := s) hpl (X := cls) (Y := "java/lang/RuntimeException") (Bundle.fit_spec hcls).1 ⟨by decide, by decide⟩ b0 b1 b2 b5 (fun w hw => hN w (by simp [nAtoms, hw]))
  have hlink1 : P1.sup = firstOf (Z.m Tc.toThrowableT) ((Q1 :: Qs).map (·.toPassT)) := Option.some.inj (hPs.symm.trans hQn)
  have hfound : s.vm.findClass cls = some P1.m.cls := findClass_of_methodNamed hPn
  cases Option.some.inj (hfoundX.symm.trans hfound)
  obtain ⟨c1, kY, hc1, hk, hord, -, -, hn6⟩ := Cond.instantiable_spec (hN (.instantiable cls 6) (by simp [nAtoms]))
  cases Option.some.inj (hc1.symm.trans hfound)
  cases Option.some.inj (hkX.symm.trans hk)
  have sel : ∀ (y : MethodName) (my : MethodId), s.methodNamed? y = some my → y.cls ≠ "java/lang/invoke/MethodHandle" ∧ y.cls ≠ "java/lang/invoke/VarHandle" → (Cond.selects cls y y).before args s = true → selectMethod e.platform s.vm P1.m.cls my = .method my := by
    intro y my hy hyc hs
    obtain ⟨c2, r2, m2, q1, q2, q3, q4, -⟩ := Cond.selects_spec hs
    cases Option.some.inj (q1.symm.trans hfound)
    cases Option.some.inj (q2.symm.trans (State.methodFound?_of_named hy hyc))
    cases Option.some.inj (q3.symm.trans hy)
    rw [Launch.admits_selectMethod X.admits]
    exact q4
  have hsel0 := sel _ _ Y.fill0 (by decide) (hN (.selects cls Bundle.tFill0 Bundle.tFill0) (by simp [nAtoms]))
  have hselF := sel _ _ Y.fill (by decide) (hN (.selects cls Bundle.tFill Bundle.tFill) (by simp [nAtoms]))
  obtain ⟨cS0, hcS0, hiss⟩ := Y.statics
  obtain ⟨u0, hu0⟩ := Cond.staticRefV Y.unassigned hTc.unassignedStatic hTc.statics hcS0 hiss (hN (.isRef (.static Bundle.tN "UNASSIGNED_STACK" Bundle.steD)) (by simp [nAtoms]))
  obtain ⟨sen, hsen⟩ := Cond.staticRefV Y.sentinel hTc.sentinelStatic hTc.statics hcS0 hiss (hN (.isRef (.static Bundle.tN "SUPPRESSED_SENTINEL" Bundle.listD)) (by simp [nAtoms]))
  obtain ⟨ci198, i198, fB, hk198, hg198, ha198, hsB, -, hnB, htB, hffB⟩ := Cond.ownField (t := .object "java/lang/Object") Y.found hTc.cls (by decide +kernel) (hN (.fieldLink Bundle.tN 198 Bundle.tN "backtrace" "Ljava/lang/Object;") (by simp [nAtoms])) (hN (.lays Bundle.tN Bundle.tN "backtrace" "Ljava/lang/Object;") (by simp [nAtoms])) e.platform hpl
  obtain ⟨cS, hcS, heS, -, hkeep⟩ := X.same.2.2.2.2.2 Tc.aS cS0 hcS0
  have hkp : ∀ i, cS.slots[i]? = cS0.slots[i]? := fun i => hkeep i (fun hmem => by
    have := hlocs _ hmem cS0 hcS0
    rw [hiss] at this
    cases this)
  have hkn : cS.vm ≠ .unknown := by
    rw [heS]
    intro hu
    rw [show cS0.vm = .unknown from hu] at hiss
    cases hiss
  have hne : Tc.aS ≠ a := Nat.ne_of_lt (Nat.lt_of_lt_of_le (Array.getElem?_eq_some_iff.mp hcS0).1 hnew)
  obtain ⟨iM, hffM⟩ := Y.msg
  obtain ⟨tyC, dC, hdC, hdnC⟩ := Cond.laysAt hfound hk Y.cause (hN (.lays cls Bundle.tN "cause" "Ljava/lang/Throwable;") (by simp [nAtoms]))
  obtain ⟨tyS, dS, hdS, hdnS⟩ := Cond.laysAt hfound hk Y.stack (hN (.lays cls Bundle.tN "stackTrace" Bundle.steD) (by simp [nAtoms]))
  obtain ⟨tyP, dP, hdP, hdnP⟩ := Cond.laysAt hfound hk Y.supp (hN (.lays cls Bundle.tN "suppressedExceptions" Bundle.listD) (by simp [nAtoms]))
  obtain ⟨tyM, dM, hdM, hdnM⟩ := Cond.laysAt hfound hk hffM (hN (.lays cls Bundle.tN "detailMessage" "Ljava/lang/String;") (by simp [nAtoms]))
  obtain ⟨tyB, dB, hdB, hdnB⟩ := Cond.laysAt hfound hk hffB (hN (.lays cls Bundle.tN "backtrace" "Ljava/lang/Object;") (by simp [nAtoms]))
  have bC := Cond.laysApart hdB hdC hdnB hdnC (by rw [hnB, Y.causeName]; decide)
  have bS := Cond.laysApart hdB hdS hdnB hdnS (by rw [hnB, Y.stackName]; decide)
  have bP := Cond.laysApart hdB hdP hdnB hdnP (by rw [hnB, Y.suppName]; decide)
  have hskip : SkipFacts Tc e.platform s (fun u => u) u0 ((preparedCellV Tc.toThrowableT (freshCell P1.m.cls kX) a u0 sen).withEntry T0.cur) :=
    ⟨{ ci198 := ci198, i198 := i198, fBack := fB }, ⟨hk198, hg198, ha198, hsB⟩, by
      have hd := fresh_default (c := P1.m.cls) tyB
      rw [htB] at hd
      simpa [preparedCellV, Cell.setSlot, Cell.withEntry, Array.getElem?_setIfInBounds, bC, bS, bP, bC.symm, bS.symm, bP.symm, defaultValue] using hd, fun _ _ => rfl⟩
  obtain ⟨tm, mC, cdC, kC, vm₁, hnC, -, -, -, -, -, -, -, hW₁, st1⟩ := Steps.initColdS (tb := p.tables) (e := e) (below := below) (s := s) (U := T0) X.here hexec X.warmed hpl hown (t := Bundle.initS cls) rfl rfl (Bundle.fit_spec hcls).2
    (hN (.methodLink own ic (Bundle.initS cls)) (by simp [nAtoms])) (hN (.instanceMethod (Bundle.initS cls)) (by simp [nAtoms, Bundle.passSAtoms])) (bytes := bytes) (maxL := 2) (hN (.code (Bundle.initS cls) bytes 2 none) (by simp [nAtoms, Bundle.passSAtoms])) (f := g) hg (a := a) (msg := msg) (rest := .ref a :: rest) hstack hd6
  cases Option.some.inj (hnC.symm.trans hPn)
  obtain ⟨vm₂, X₂, st2⟩ := (X.noted hW₁).ctorMessageOffV hexec (g := { g with stack := .ref a :: rest }) hg hsize Tc hTc Z hZ M hM (P1 :: Q1 :: Qs)
    (fun P hP => by
      rcases List.mem_cons.mp hP with rfl | hP
      · exact hP1
      · rcases List.mem_cons.mp hP with rfl | hP
        · exact hQ1
        · exact hQs P hP) ⟨hlink1, hlq1, hlq⟩ (u0 := u0) (sen := sen) (self := a) hmsg (cell := freshCell P1.m.cls kX) (cellS := cS)
    hcell (fun _ => by simp) (by simp) rfl rfl hsel0 hselF hcS hne hkn (by rw [hkp]; exact hu0) (by rw [hkp]; exact hsen)
    (Takes.of_laid hk hord tyC (by rw [Y.causeType]; rfl)) (Takes.of_laid hk hord tyS (by rw [Y.stackType]; exact fits_refV_array _ u0)) (Takes.of_laid hk hord tyP (by rw [Y.suppType]; exact fits_refV_object _ sen))
    (Takes.of_laid hk hord tyM (by rw [Y.msgType]; exact fits_refV_object _ ⟨msg, hmsg⟩)) Y.objLocals hskip htr [] hd6
    (by simp only [List.length_cons, hlen, List.length_nil]; omega) (by simp only [List.length_cons, hlen, List.length_nil]; omega)
  obtain ⟨hwalk, hrun, hended, hWU, hsame⟩ := X₂.athrowLeaves hexec (g := { g with stack := .ref a :: rest, pc := g.pc + 3 }) hg hlocked hentered hout (a := a) (rest := rest) rfl hd9
  have hlt : a < ((T0.setVm vm₁).setVm vm₂).heap.size := (Array.getElem?_eq_some_iff.mp hcell).1
  refine ⟨_, _, st1 _ (fun acts => ?_), hrun, hended, hWU, hsame.weaken (fun y hy hl2 => ?_) (Nat.le_refl _) (Nat.le_refl _), heapAt_setCell_self (s := (T0.setVm vm₁).setVm vm₂) (plainBareV Tc.toThrowableT (freshCell P1.m.cls kX) a u0 sen msg) hlt, hfound, rfl⟩
  · rw [doInvoke_state]
    exact st2 _ hwalk
  · rcases List.mem_append.mp hy with h1 | h1
    · exact h1
    · exfalso
      have hb : y.base = a := by
        simp only [List.mem_cons, List.not_mem_nil, or_false] at h1
        rcases h1 with rfl | rfl | rfl | rfl | rfl <;> rfl
      rw [hb] at hl2
      exact Nat.not_lt.mpr hnew hl2
theorem thr_W {G : Gl} {mi : MI} {p : Program} {e : Env} {R : Room} {s : State} {m : MethodId} {args : Array Value} {below : List Frame} {meth : Method} {c : Code} {X tx : String} {ic0 k ic pc : Nat} {ls : Array Slot} {h : Hp} {H : Heap}
    (hC : Cx G mi p s m args meth c) (hNo : c.exceptionTable.isEmpty = true)
    (w0 : Cond.classLink mi.1.cls ic0 X ∈ lw_tb) (w1 : Cond.instantiable X 6 ∈ lw_tb) (w2 : Cond.initialized X ∈ lw_tb) (wS : (mi.1.cls, k, tx) ∈ strK)
    (wO : (∀ w ∈ Bundle.ownAtoms mi.1.cls ic X upX, w ∈ lw_tb ∨ w ∈ xW) ∨ ∃ ix bytes, decode bytes 0 = .ok (.aload_n 0, 1) ∧ decode bytes 1 = .ok (.aload_n 1, 1) ∧ decode bytes 2 = .ok (.invokespecial ix, 3) ∧ decode bytes 5 = .ok (.return_, 1) ∧ ∀ w ∈ nAtoms mi.1.cls ic X ix bytes, w ∈ lw_tb ∨ w ∈ xW)
    (hfit : Bundle.fit X = true)
    (d0 : decode mi.2.1 pc = .ok (.new ic0, 3)) (d1 : decode mi.2.1 (pc + 3) = .ok (.dup, 1)) (d2 : decode mi.2.1 (pc + 4) = .ok (.ldc k, 2)) (d3 : decode mi.2.1 (pc + 6) = .ok (.invokespecial ic, 3)) (d4 : decode mi.2.1 (pc + 9) = .ok (.athrow, 1))
    (hR : Rp G h H) (hsz : ls.size = mi.2.2.1) (hfr : 6 ≤ R.frames) (hlo : 90 ≤ R.locals) (hce : 1 ≤ R.cells) (hsl : 6 ≤ R.slots) :
    W p G.1 e R s m args below meth c H [] 0 0 (fun t => ∃ o, t.status = .running ∧ Ended t below o ∧ Tq G h X args s o t) (F0 m pc ls []) := by
  intro T hTT X0
  obtain ⟨hx, hb, hml, hown, hts, hret, hlk, hnme, hKd⟩ := hC
  have hKx := hKd.2.2.2.2
  have htr : e.platform.stackTraces = false := Launch.traces_off hKx.1 X0.admits
  have hk0 := heap_kept X0.same
  have hz0 : T.heap.size = s.heap.size := Nat.le_antisymm X0.same.2.2.1 X0.same.2.1
  have hTs : T.heap = s.heap := by
    refine Array.ext_getElem? fun i => ?_
    by_cases hi : i < s.heap.size
    · exact hk0 i hi
    · rw [Array.getElem?_eq_none (by omega), Array.getElem?_eq_none (by omega)]
  have hRs : Rp G h s.heap := by rw [← hTs, hTT]; exact hR
  have hTh : hT h = T.heap.size := by rw [hz0]; exact hRs.1
  obtain ⟨vm₁, cX, kX, hfX, hkX, -, -, X₁, st1⟩ := X0.newCold hx (own := mi.1.cls) (C := X) (index := ic0) (n := 6) hown (hts _ w0) (hts _ w1) (hts _ w2) (g := F0 m pc ls []) rfl (by rw [hb]; exact d0) (by omega) (by omega)
  generalize hT1 : (T.setVm vm₁).pushCell { cls := cX, slots := kX.instanceTypes.map defaultValue, vm := .none } = T1 at X₁ st1
  have hA : T1.heap[T.heap.size]? = some (freshCell cX kX) := by rw [← hT1]; exact State.heap_pushCell_size _ _
  obtain ⟨q, hZ⟩ := hKx.2.2.2.2.2.1 _ wS
  have thrown : ∃ U ce, Steps p.tables e below (T1.setTop (F0 m (pc + 6) ls [.ref q, .ref T.heap.size, .ref T.heap.size])) U ∧ U.status = .running ∧ Ended U below (.threw T.heap.size) ∧ s.WarmedH U.vm ∧ s.sameButNew ({ U with vm := s.vm } : State) [] (0 + 1) (0 + 6) ∧ U.heap[T.heap.size]? = some ce ∧ s.vm.findClass X = some ce.cls ∧ ce.vm = .none := by
    rcases wO with wO | ⟨ix, bytes, y0, y1, y2, y5, wO⟩
    · have atoms : ∀ a ∈ Bundle.ownAtoms mi.1.cls ic X upX, a.before args s = true := by
        intro a ha
        rcases wO a ha with h1 | h1
        · exact hts _ h1
        · exact xW_ok hKx hRs.2.2.1 a h1
      obtain ⟨U, hsteps, hrun, hend, hW, hsm, ce, hce1, K⟩ := X₁.ctorThrowS hx htr (own := mi.1.cls) (cls := X) (names := upX) (ic := ic) hown hfit (by decide +kernel) atoms (fun y hy => by cases hy) hfX hkX (a := T.heap.size) hA (by omega) (msg := .ref q) rfl
        (g := F0 m (pc + 6) ls [.ref q, .ref T.heap.size, .ref T.heap.size]) rfl (by rw [hml]; exact hsz) rfl rfl (rest := []) rfl (by rw [hb]; exact d3) (by rw [hb]; exact d4) (covers_of_empty hNo _) (by show 2 + 3 < R.frames; omega) (by show 0 + 1 + (13 * (2 + 1) + 42) ≤ R.locals; omega)
      exact ⟨U, ce, hsteps, hrun, hend, hW, hsm, hce1, K.cls, K.vm⟩
    · have atoms : ∀ a ∈ nAtoms mi.1.cls ic X ix bytes, a.before args s = true := by
        intro a ha
        rcases wO a ha with h1 | h1
        · exact hts _ h1
        · exact xW_ok hKx hRs.2.2.1 a h1
      exact throwN X₁ hx htr (own := mi.1.cls) (cls := X) (ic := ic) hown hfit y0 y1 y2 y5 atoms (fun y hy => by cases hy) hfX hkX (a := T.heap.size) hA (by omega) (msg := .ref q) rfl
        (g := F0 m (pc + 6) ls [.ref q, .ref T.heap.size, .ref T.heap.size]) rfl (by rw [hml]; exact hsz) rfl rfl (rest := []) rfl (by rw [hb]; exact d3) (by rw [hb]; exact d4) (covers_of_empty hNo _) (by omega) (by show 0 + 1 + 81 ≤ R.locals; omega) hlk
  obtain ⟨U, ce, hsteps, hrun, hend, hW, hsm, hce1, hKc, hKv⟩ := thrown
  refine ⟨U, ?_, .threw T.heap.size, hrun, hend, ?_⟩
  · refine st1 _ ?_
    have st2 := X₁.ldcString hx hown (text := tx) (a := q) hZ.1 hZ.2 (g := F0 m (pc + 4) ls [.ref T.heap.size, .ref T.heap.size]) rfl (by rw [hb]; exact d2) U hsteps
    show Steps p.tables e below (T1.setTop (F0 m (pc + 3) ls [.ref T.heap.size])) U
    jvm_step X₁.here [X₁.here.top, hx, hb, d1, Value.category]
    exact st2
  · refine ⟨by rw [hTh], ?_, ?_, hW, hsm⟩
    · have hUk := heap_kept hsm
      have hUz : U.heap.size = s.heap.size + 1 := by
        have h1 : U.heap.size ≤ s.heap.size + 1 := hsm.2.2.1
        have h2 := (Array.getElem?_eq_some_iff.mp hce1).1
        omega
      exact hRs.grown (kd := 0) (n := 0) (u := 6) (by rw [hUz, hRs.1]) (fun q hq => hUk q (by rw [hRs.1] at hq; exact hq)) (fun ci h1 => by omega) (fun h1 => by omega)
    · exact ⟨ce, by rw [hTh]; exact hce1, hKc, hKv⟩
def G0 (G : Gl) : Gl := (G.1, G.2.1, G.2.2.1, G.2.2.2.1, False, gB G, gL G, gX G)
theorem Tv.of {G : Gl} {mi : MI} {as : List Value} {h : Hp} {X tx : String} {ic0 k ic pc : Nat} (hy : plainName mi.1.cls = true) (hlen : (lg_sl as).length ≤ mi.2.2.1) (hpc : pc < 65536)
    (w0 : Cond.classLink mi.1.cls ic0 X ∈ lw_tb) (w1 : Cond.instantiable X 6 ∈ lw_tb) (w2 : Cond.initialized X ∈ lw_tb) (wS : (mi.1.cls, k, tx) ∈ strK)
    (wO : (∀ w ∈ Bundle.ownAtoms mi.1.cls ic X upX, w ∈ lw_tb ∨ w ∈ xW) ∨ ∃ ix bytes, decode bytes 0 = .ok (.aload_n 0, 1) ∧ decode bytes 1 = .ok (.aload_n 1, 1) ∧ decode bytes 2 = .ok (.invokespecial ix, 3) ∧ decode bytes 5 = .ok (.return_, 1) ∧ ∀ w ∈ nAtoms mi.1.cls ic X ix bytes, w ∈ lw_tb ∨ w ∈ xW)
    (hfit : Bundle.fit X = true)
    (d0 : decode mi.2.1 pc = .ok (.new ic0, 3)) (d1 : decode mi.2.1 (pc + 3) = .ok (.dup, 1)) (d2 : decode mi.2.1 (pc + 4) = .ok (.ldc k, 2)) (d3 : decode mi.2.1 (pc + 6) = .ok (.invokespecial ic, 3)) (d4 : decode mi.2.1 (pc + 9) = .ok (.athrow, 1))
    (hfr : 6 ≤ mi.2.2.2.2.1) (hlo : 90 ≤ mi.2.2.2.2.2) (kk : Go (G0 G) mi h (pT pc h) h 0 (lv_args 0 as) []) : Tv G mi as h X := by
  obtain ⟨r, h', ⟨-, h2, h3, h4⟩, hr, hh⟩ := kk
  subst hr
  have hh2 := hh.symm
  subst hh2
  refine MetFree.of_bodyS (code := mi.2.1) (maxLocals := mi.2.2.1) (ret := mi.2.2.2.1) hy ?_ ?_
  · intro args s m hh hn
    obtain ⟨meth, c, q1, q2, q3, q4, q5, q6, -, -⟩ := Cond.code_spec hn (atoms_spec (ws := wsy mi) hh _ List.mem_cons_self)
    exact ⟨meth, c, q1, q2, q3, q4, q5, q6⟩
  · intro p e s m args below meth c s₁ B hml hP _
    obtain ⟨rfl, hR, hKd⟩ := hP
    have hts := atoms_spec (ws := wsy mi) B.pre
    have hC : Cx G mi p s m as.toArray meth c := ⟨B.exec, B.bytes, hml, findClass_of_methodNamed B.named, fun w hw => hts w (List.mem_cons_of_mem _ hw), B.returns, B.notSynchronized, ⟨(name_of_methodNamed B.named B.method).1, B.named⟩, hKd⟩
    have hNo := B.noHandlers (hts _ List.mem_cons_self)
    have key := h4 p e (headSpec (wsy mi) ({ frames := mi.2.2.2.2.1, cells := 1, slots := 6, locals := mi.2.2.2.2.2 })).room s m as.toArray below meth c (fun t => ∃ o, t.status = .running ∧ Ended t below o ∧ Tq G h X as.toArray s o t) s.heap [] _
      hC (Nat.le_refl _) (Nat.le_refl _) (by show hT h ≤ hT h + 1; omega) (by show hU h ≤ hU h + 6; omega) (Nat.le_refl _) (Nat.le_refl _) ?_ hR (fun q hq => by cases hq) (lv_entry as hlen)
    · rw [Nat.sub_self, Nat.sub_self] at key
      have hh0 : s₁.heap = s.heap := by rw [B.state]; rfl
      obtain ⟨t, a1, o, b1, b2, b3⟩ := key s₁ hh0 (Stand.of_body B)
      exact ⟨t, o, by rw [lg_entry_eq]; exact a1, b1, b2, b3⟩
    · intro pc2 ls H locs hR2 hL hsz he
      have hl0 : locs = [] := by
        cases locs with
        | nil => rfl
        | cons q qs => exact (hL q List.mem_cons_self).1.elim
      subst hl0
      have hpc2 : pc2 = pc := by
        have : pc2 = (UInt32.ofNat pc).toNat := he
        rw [this]
        show (BitVec.ofNat 32 pc).toNat = pc
        rw [BitVec.toNat_ofNat]
        omega
      subst hpc2
      rw [Nat.sub_self, Nat.sub_self]
      exact thr_W hC hNo w0 w1 w2 wS wO hfit d0 d1 d2 d3 d4 hR2 hsz hfr hlo (by show 1 ≤ 1; omega) (by show 6 ≤ 6; omega)

/-! calls by free contracts -/
theorem callF {p : Program} {l : Launch} {e : Env} {R : Room} {s : State} {m : MethodId} {args : Array Value} {below : List Frame} {meth : Method} {c : Code} {U : State} {locs : List Loc} {cells slots : Nat} (X : Stand p l e R s m args below meth c U locs cells slots)
    {g : JFrame} (hg : g.method = m) (hsize : g.locals.size = c.maxLocals) {ig : Instr} {len : Nat} (hdg : decode c.code g.pc = .ok (ig, len)) {y : MethodName} {mk : MethodId} {methY : Method} {cY : Code} {ws : List Cond} {rm : Room} {Pc : Array Value → State → Prop} {Qc : Array Value → State → Outcome → State → Prop} {a : Array Value}
    (hM : MetFree l y (headSpec ws rm) Pc (fun _ _ _ _ _ => True) Qc) (hn : U.methodNamed? y = some mk) (hmY : U.vm.method? mk = some methY) (hcY : methY.code = some cY) (hini : (Cond.initialized y.cls).before a U = true) (hws : ∀ w ∈ ws, w.before a U = true)
    (hframes : rm.frames + 1 ≤ R.frames) (hlocals : 2 * g.monitorRoom + (g.stack.map fun v => v.category).sum + (cY.maxLocals + 11) + rm.locals ≤ R.locals) (hcells : cells + rm.cells ≤ R.cells) (hslots : slots + rm.slots ≤ R.slots) (hP : Pc a (U.calling g mk a)) :
    ∃ o t, Steps p.tables e below (doInvoke e (U.setTop g) [] mk a).1 t ∧ Ended t (.java g :: below) o ∧ Qc a (U.calling g mk a) o t := by
  obtain ⟨kY, hkY, -⟩ := className_of_methodNamed hn
  have hinitY : kY.init = .initialized := Cond.initialized_spec (findClass_of_methodNamed hn) hkY hini
  have h : At U g.method c below := by rw [hg]; exact X.here
  have happ : (headSpec ws rm).appliesLoose y e.platform (U.calling g mk a) = true :=
    Spec.appliesLoose_calling (g := g) h hdg hn hkY hinitY (X.room_calling (g := g) (R' := (headSpec ws rm).room) hsize hmY hcY hframes hlocals hcells hslots) (atoms_intro hws)
  obtain ⟨mid, hmid⟩ := h.above
  have hfr : (U.setTop g).frames = (.java g :: mid) ++ below := by rw [State.frames_setTop' g h.top, hmid]; rfl
  obtain ⟨o, t, hsteps, -, hend, hq⟩ := Steps.callFree hM p X.admits X.cas X.clock (acts := []) hfr happ hP trivial
  rw [State.frames_setTop' g h.top, X.tail] at hend
  exact ⟨o, t, hsteps, hend, hq⟩
/-- the tables' search for an exception's handler, entry by entry: passed, then caught -/
def Hits (mi : MI) (X : String) (pc hpc : Nat) (hs : List (Nat × Nat × Nat × Nat)) : Prop :=
  (∃ a0 a1 ct r, hs = (a0, a1, hpc, ct) :: r ∧ a0 ≤ pc ∧ pc < a1 ∧ ct ≠ 0 ∧ Cond.classLink mi.1.cls ct X ∈ lw_tb) ∨
  (X = "java/lang/IllegalStateException" ∧ ∃ a0 a1 h1 c1 b0 b1 c2, hs = [(a0, a1, h1, c1), (b0, b1, hpc, c2)] ∧ a0 ≤ pc ∧ pc < a1 ∧ c1 ≠ 0 ∧ Cond.classLink mi.1.cls c1 "java/lang/IllegalArgumentException" ∈ lw_tb ∧ b0 ≤ pc ∧ pc < b1 ∧ c2 ≠ 0 ∧ Cond.classLink mi.1.cls c2 X ∈ lw_tb)
/-- a class entry of the pool, as the search meets it -/
theorem lk_note {p : Program} {l : Launch} {e : Env} {R : Room} {s : State} {m : MethodId} {args : Array Value} {below : List Frame} {meth : Method} {c : Code} {T : State} {locs : List Loc} {cells slots : Nat} (X : Stand p l e R s m args below meth c T locs cells slots)
    {own C : String} {ct : Nat} (hown : s.vm.findClass own = some m.cls) (hlink : (Cond.classLink own ct C).before args s = true) :
    ∃ cT k, s.vm.findClass C = some cT ∧ T.vm.ClassLinks e.platform m.cls ct cT ∧ T.vm.classes[cT]? = some k ∧ Stand p l e R s m args below meth c (T.setVm (T.vm.noted m.cls ct (.cls cT))) locs cells slots := by
  have hpl : e.platform.magicAccessors = ({} : Platform).magicAccessors := by rw [X.admits.platform]
  obtain ⟨cT, hcT, hcl⟩ := Cond.classLink_spec hown hlink e.platform hpl
  obtain ⟨dk, _, _, kt, hd, _, _, _, _, hkt, _, hopen⟩ := hcl.here
  obtain ⟨kt2, hkt2, -⟩ := X.warmed.alike.2.2 _ _ hkt
  exact ⟨cT, kt2, hcT, X.warmed.classLinks hcl, hkt2, X.noted (X.warmed.noted hd hopen (State.rightAt_cls hcl))⟩
theorem hits_caught {G : Gl} {mi : MI} {p : Program} {e : Env} {R : Room} {s : State} {m : MethodId} {args : Array Value} {below : List Frame} {meth : Method} {c : Code} {T : State} {locs : List Loc} {cells slots : Nat} {X : String} {pc hpc : Nat} {hs : List (Nat × Nat × Nat × Nat)} {a : Addr} {ce : Cell}
    (X0 : Stand p G.1 e R s m args below meth c T locs cells slots) (hC : Cx G mi p s m args meth c) (hH : Hits mi X pc hpc hs) (htab : c.exceptionTable.toList.map (fun h => (h.startPc, h.endPc, h.handlerPc, h.catchType)) = hs)
    (hcast : X ∈ exN) (hce : T.heap[a]? = some ce) (hcls : s.vm.findClass X = some ce.cls) (hvm : ce.vm = .none) {g : JFrame} (hg : g.method = m) (hgp : g.pc = pc) :
    ∃ T2, T2.heap = T.heap ∧ Stand p G.1 e R s m args below meth c T2 locs cells slots ∧ ∀ target, Steps p.tables e below (T2.setTop { g with pc := hpc, stack := [.ref a] }) target → Steps p.tables e below ((T.setTop g).pushFrame (.throwing a)) target := by
  obtain ⟨hx, hb, hml, hown, hts, hret, hlk, hnme, hKd⟩ := hC
  subst hg
  have hobj : ∀ k, ce.vm ≠ .statics k := fun k hk => by rw [hvm] at hk; cases hk
  obtain ⟨c3, c4, hc3, hc4, hasg⟩ := Cond.castable_spec ((hKd.2.2.2.2.2.2.2.2.2.2.2.2.1 X hcast).use (A := args) rfl)
  cases Option.some.inj (hc3.symm.trans hcls)
  cases Option.some.inj (hc4.symm.trans hcls)
  have hal := X0.warmed.alike
  have ev : ((T.setTop g).pushFrame (.throwing a)).vm = T.vm := Stand.throwing_vm T g a
  have eh : ((T.setTop g).pushFrame (.throwing a)).heap = T.heap := Stand.throwing_heap T g a
  rcases hH with ⟨a0, a1, ct, r, rfl, k1, k2, k3, k4⟩ | ⟨hX, a0, a1, h1, c1, b0, b1, c2, rfl, k1, k2, k3, k4, l1, l2, l3, l4⟩
  · cases hl : c.exceptionTable.toList with
    | nil => rw [hl] at htab; cases htab
    | cons x t =>
      rw [hl] at htab
      simp only [List.map_cons, List.cons.injEq, Prod.mk.injEq] at htab
      obtain ⟨⟨e1, e2, e3, e4⟩, -⟩ := htab
      obtain ⟨cT, k, hcT, hcl, hk, X1⟩ := lk_note X0 hown (hts _ k4)
      cases Option.some.inj (hcT.symm.trans hcls)
      refine ⟨T.setVm (T.vm.noted g.method.cls ct (.cls ce.cls)), rfl, X1, fun target hrest => ?_⟩
      refine sk_caught (meth := meth) X0.here X0.method' X0.code ?_ hrest
      rw [hl]
      have key := Sk.hit (e := e) (s := (T.setTop g).pushFrame (.throwing a)) (f := g) (a := a) (x := x) (t := t) (c := ce.cls) (cell := ce) (k1 := k) (k2 := k) (by simp [covers, e1, e2, hgp, k1, k2]) (by rw [e4]; exact k3) (by rw [ev, e4]; exact hcl) (by rw [eh]; exact hce) hobj (by rw [ev]; exact hk) (by rw [ev]; exact hk) (by rw [ev, hal.assignable]; exact hasg)
      rw [ev, e3, e4] at key
      exact key
  · subst hX
    cases hl : c.exceptionTable.toList with
    | nil => rw [hl] at htab; cases htab
    | cons x t =>
      cases t with
      | nil => rw [hl] at htab; cases htab
      | cons y t =>
        rw [hl] at htab
        simp only [List.map_cons, List.cons.injEq, Prod.mk.injEq] at htab
        obtain ⟨⟨e1, e2, e3, e4⟩, ⟨f1, f2, f3, f4⟩, -⟩ := htab
        obtain ⟨cA, kA, hcA, hclA, hkA, X1⟩ := lk_note X0 hown (hts _ k4)
        obtain ⟨cT, k, hcT, -, hk, -⟩ := lk_note X0 hown (hts _ l4)
        cases Option.some.inj (hcT.symm.trans hcls)
        obtain ⟨cT, k', hcT', hcl', hk', X2⟩ := lk_note X1 hown (hts _ l4)
        cases Option.some.inj (hcT'.symm.trans hcls)
        refine ⟨(T.setVm (T.vm.noted g.method.cls c1 (.cls cA))).setVm ((T.setVm (T.vm.noted g.method.cls c1 (.cls cA))).vm.noted g.method.cls c2 (.cls ce.cls)), rfl, X2, fun target hrest => ?_⟩
        rw [State.setVm_twice] at hrest
        refine sk_caught (meth := meth) X0.here X0.method' X0.code ?_ hrest
        rw [hl]
        have hno : T.vm.assignable ce.cls cA = false := by rw [hal.assignable]; exact hKd.2.2.2.2.2.2.2.2.1 _ _ hcls hcA
        have hal1 := X1.warmed.alike
        refine Sk.miss (c := cA) (cell := ce) (k1 := k) (k2 := kA) (by simp [covers, e1, e2, hgp, k1, k2]) (by rw [e4]; exact k3) (by rw [ev, e4]; exact hclA) (by rw [eh]; exact hce) hobj (by rw [ev]; exact hk) (by rw [ev]; exact hkA) (by rw [ev]; exact hno) ?_
        rw [ev, e4]
        have key := Sk.hit (e := e) (s := ((T.setTop g).pushFrame (.throwing a)).setVm (T.vm.noted g.method.cls c1 (.cls cA))) (f := g) (a := a) (x := y) (t := t) (c := ce.cls) (cell := ce) (k1 := k') (k2 := k') (by simp [covers, f1, f2, hgp, l1, l2]) (by rw [f4]; exact l3) (by rw [f4]; exact hcl') (by exact (by rw [← eh] at hce; exact hce)) hobj hk' hk' (by
          exact (hal1.assignable ce.cls ce.cls).trans hasg)
        rw [f3, f4] at key
        exact key

/-- a call that throws, caught here -/
theorem g_throw {G : Gl} {mi mz : MI} {h0 h : Hp} {P : Option Value → Hp → Prop} {pc hpc : Nat} {L : List (Nat × Value)} {st : List Value} {idx n : Nat} {As rest : List Value} {b : Nat} {X : String} {hs : List (Nat × Nat × Nat × Nat)}
    (hE : Tv G mz (.ref b :: As) h X) (hcw : cW mi mz n) (hlk : Cond.methodLink mi.1.cls idx mz.1 ∈ lw_tb) (hk : Cond.instanceMethod mz.1 ∈ lw_tb) (hk2 : Cond.selects mz.1.cls mz.1 mz.1 ∈ lw_tb) {ci : Nat} {q : vw_C} (hkb : hK h b = ci + 1) (hci : ci < 90) (hcl : vwCl[ci]? = some q) (hq : q.1 = mz.1.cls)
    (hwith : Cond.codeWith mi.1 mi.2.1 mi.2.2.1 mi.2.2.2.1 hs ∈ lw_tb) (hH : Hits mi X pc hpc hs) (hcast : X ∈ exN)
    (hd : decode mi.2.1 pc = .ok (.invokevirtual idx, 3)) (hst : st = As.reverse ++ .ref b :: rest) (hn : As.length = n) (hcat : (rest.map fun v => v.category).sum ≤ 8)
    (k : Go G mi h0 P (nw h 0 0 6) hpc L [.ref (hT h)]) : Go G mi h0 P h pc L st := by
  subst hst
  refine Go.step (h2 := nw h 0 0 6) (by rw [hT_nw]; omega) (by rw [hU_nw]; omega) (fun p e R s m args below meth c Q H locs ls hC f1 f2 b1 b2 b3 b4 hR hL hl kk => ?_) k
  rw [hT_nw] at b1 kk
  rw [hU_nw] at b2 kk
  obtain ⟨c1, c2, ⟨c3, c4, c5⟩, c6, c7⟩ := hcw
  obtain ⟨hx, hb, hml, hown, hts, -, -, hnme, hKd⟩ := id hC
  have hlen : ∀ sig, parseMethodDescriptor mz.1.desc = some sig → n = sig.parameters.length := fun sig h => by
    rw [h] at c5
    exact (Option.some.inj c5).symm
  have hws := wsy_warm (mz := mz) c1 hts
  obtain ⟨-, -, rq, hrq, cellB, g1, g2, g3, -⟩ := hR.2.2.2.1 b ci hkb hci
  have hclB : s.vm.findClass mz.1.cls = some cellB.cls := by rw [g2, ← hq]; exact (hKd.1.1 ci q hcl).2.1
  obtain ⟨mk, methM, hnamed, hmethM, hstM, habM⟩ := Cond.instanceMethod_spec (hts _ hk)
  obtain ⟨methM', cM, hmethM', hcM, -, hlM, -, -, -, hsigM⟩ := Cond.code_spec hnamed (hts _ c1)
  cases hmethM.symm.trans hmethM'
  obtain ⟨cc, r2, m2, q1, q2, q3, q4, kP, hkP, hkPi⟩ := Cond.selects_spec (hts _ hk2)
  cases hclB.symm.trans q1
  cases (State.methodFound?_of_named hnamed ⟨c3, c4⟩).symm.trans q2
  cases hnamed.symm.trans q3
  intro T hTT X0
  have hselP : selectMethod e.platform s.vm cellB.cls mk = .method mk := by rw [Launch.admits_selectMethod X0.admits]; exact q4
  obtain ⟨vm₁, X₁, hstep₁⟩ := X0.invokevirtual hx hown (hts _ hlk) hnamed hmethM hstM hkP hkPi ⟨c3, c4⟩ (a := b) (cell := cellB) (by rw [hTT]; exact g1) (fun z h => by rw [g3] at h; cases h) hselP hmethM habM hkP hkPi (g := F0 m pc ls (As.reverse ++ .ref b :: rest)) rfl (argsL := As) (rest := rest) (hn.trans (hlen _ hsigM)) rfl (by rw [hb]; exact hd)
  have hmM1 : (T.setVm vm₁).vm.method? mk = some methM := by
    rw [X₁.warmed.alike.method?]
    exact hmethM
  obtain ⟨o, t, hsteps, hend, hqq⟩ := callF X₁ (g := F0 m pc ls rest) rfl (by show ls.size = c.maxLocals; rw [hml]; exact hl.1) (ig := .invokevirtual idx) (len := 3) (by rw [hb]; exact hd) (a := (Value.ref b :: As).toArray) hE (X₁.named hnamed) hmM1 hcM (word_at X₁.warmed (tb_good _ c2) (hts _ c2)) (fun w hw => hws w hw _ _ X₁.warmed)
    (by show mz.2.2.2.2.1 + 1 ≤ R.frames; omega) (by show 2 * 0 + (rest.map fun v => v.category).sum + (cM.maxLocals + 11) + mz.2.2.2.2.2 ≤ R.locals; rw [hlM]; omega) (by show hT h - hT h0 + 1 ≤ R.cells; omega) (by show hU h - hU h0 + 6 ≤ R.slots; omega)
    (pcA_blind _ _ _ _ ⟨rfl, by show Rp G h T.heap; rw [hTT]; exact hR, hKd.warm X₁.warmed⟩)
  obtain ⟨rfl, hRt, ⟨ce, hce, hfc, hvm⟩, hWt, hsame⟩ := hqq
  obtain ⟨T', X', hW', hsm', ht⟩ := X₁.outOfThrown rfl hend hWt hsame
  subst ht
  have hTh : ((T'.setTop (F0 m pc ls rest)).pushFrame (.throwing (hT h))).heap = T'.heap := Stand.throwing_heap T' _ _
  obtain ⟨m', meth', c', n1, n2, n3, n4, n5, n6, -, -, -⟩ := Cond.codeWith_spec (hts _ hwith)
  cases hnme.2.symm.trans n1
  cases X0.method.symm.trans n2
  cases X0.code.symm.trans n3
  have hfs : s.vm.findClass X = some ce.cls := by
    rw [← X₁.warmed.alike.findClass]
    exact hfc
  obtain ⟨T2, e2, X2, st2⟩ := hits_caught X' hC hH n6 hcast (a := hT h) (by rw [← hTh]; exact hce) hfs hvm (g := F0 m pc ls rest) rfl rfl
  rw [show hT h + 1 - hT h0 = hT h - hT h0 + 1 by omega, show hU h + 6 - hU h0 = hU h - hU h0 + 6 by omega] at kk
  obtain ⟨t2, a1, b5⟩ := kk T2.heap (locs ++ []) ls (by rw [e2, ← hTh]; exact hRt) (by rw [List.append_nil]; exact hL) hl T2 rfl X2
  exact ⟨t2, hstep₁ _ (fun acts => by rw [doInvoke_state]; exact hsteps.trans (st2 t2 a1)), b5⟩
/-! methods with a table of handlers -/
def wsyW (mi : MI) (hs : List (Nat × Nat × Nat × Nat)) : List Cond := Cond.codeWith mi.1 mi.2.1 mi.2.2.1 mi.2.2.2.1 hs :: lw_tb
def EvW (G : Gl) (mi : MI) (hs : List (Nat × Nat × Nat × Nat)) (as : List Value) (h : Hp) (r : Option Value) (h' : Hp) : Prop :=
  rOk mi.2.2.2.1 r ∧ hT h ≤ hT h' ∧ hU h ≤ hU h' ∧ Met G.1 mi.1 (wsyW mi hs) ({ frames := mi.2.2.2.2.1, cells := hT h' - hT h, slots := hU h' - hU h, locals := mi.2.2.2.2.2 }) (pcA G as h) (qcA G r h') (hT h' - hT h) (hU h' - hU h) (Lk G)
def ExW (G : Gl) (mi : MI) (hs : List (Nat × Nat × Nat × Nat)) (as : List Value) (h : Hp) (P : Option Value → Hp → Prop) : Prop := ∃ r h', EvW G mi hs as h r h' ∧ P r h'
theorem ExW.of {G : Gl} {mi : MI} {hs : List (Nat × Nat × Nat × Nat)} {as : List Value} {h : Hp} {P : Option Value → Hp → Prop} (hm : ∀ r h', P r h' → ¬ mk r) (hy : plainName mi.1.cls = true) (hri : mi.2.2.2.1 = some .int) (hlen : (lg_sl as).length ≤ mi.2.2.1) (k : Go G mi h P h 0 (lv_args 0 as) []) : ExW G mi hs as h P := by
  obtain ⟨r, h', ⟨h1o, h2, h3, h4⟩, hp⟩ := k
  have h1 : rOk mi.2.2.2.1 r := h1o.resolve_right (hm r h' hp)
  refine ⟨r, h', ⟨h1, h2, h3, ?_⟩, hp⟩
  refine MetFree.of_bodyS (code := mi.2.1) (maxLocals := mi.2.2.1) (ret := mi.2.2.2.1) hy ?_ ?_
  · intro args s m hh hn
    obtain ⟨m', meth, c, q1, q2, q3, q4, q5, -, q6, q7, -⟩ := Cond.codeWith_spec (atoms_spec (ws := wsyW mi hs) hh _ List.mem_cons_self)
    cases hn.symm.trans q1
    exact ⟨meth, c, q2, q3, q4, q5, q6, q7⟩
  · intro p e s m args below meth c s₁ B hml hP _
    obtain ⟨rfl, hR, hKd⟩ := hP
    have hts := atoms_spec (ws := wsyW mi hs) B.pre
    have hret := B.returns
    have hlocks := B.notSynchronized
    have key := h4 p e (headSpec (wsyW mi hs) ({ frames := mi.2.2.2.2.1, cells := hT h' - hT h, slots := hU h' - hU h, locals := mi.2.2.2.2.2 })).room s m as.toArray below meth c (MQ below (qcA G r h') as.toArray s (hT h' - hT h) (hU h' - hU h) (Lk G)) s.heap [] _
      ⟨B.exec, B.bytes, hml, findClass_of_methodNamed B.named, fun w hw => hts w (List.mem_cons_of_mem _ hw), hret, hlocks, ⟨(name_of_methodNamed B.named B.method).1, B.named⟩, hKd⟩ (Nat.le_refl _) (Nat.le_refl _)
      (by show hT h' ≤ hT h + (hT h' - hT h); omega) (by show hU h' ≤ hU h + (hU h' - hU h); omega) (Nat.le_refl _) (Nat.le_refl _) ?_ hR (fun q hq => by cases hq) (lv_entry as hlen)
    · rw [Nat.sub_self, Nat.sub_self] at key
      have hh0 : s₁.heap = s.heap := by rw [B.state]; rfl
      obtain ⟨t, a1, o, b1, b2, b3⟩ := key s₁ hh0 (Stand.of_body B)
      exact ⟨t, o, by rw [lg_entry_eq]; exact a1, b1, b2, b3.1, b3.2⟩
    · intro pc ls H locs hR' hL _ hd0
      have hd := (rOk_e h1 mi pc).1.mp hd0
      rw [(rOk_e h1 mi pc).2]
      have hq : ∀ t : State, t.heap = H → s.WarmedH t.vm → qcA G r h' as.toArray s (.returned r) t := fun t ht _ => ⟨rfl, by rw [ht]; exact hR'⟩
      rw [hri] at h1 hret
      match r, h1 with
      | some (.int v), _ => exact W.iret B.exec B.bytes hret hq hL hd
/-- a static call of a method with a table -/
theorem g_callW {G : Gl} {mi mz : MI} {h0 h : Hp} {P P1 : Option Value → Hp → Prop} {pc : Nat} {L : List (Nat × Value)} {st : List Value} {idx n : Nat} {As rest : List Value} {hs : List (Nat × Nat × Nat × Nat)} (hE : ExW G mz hs As h P1)
    (c1 : Cond.codeWith mz.1 mz.2.1 mz.2.2.1 mz.2.2.2.1 hs ∈ lw_tb) (c2 : Cond.initialized mz.1.cls ∈ lw_tb) (c3 : mz.1.cls ≠ "java/lang/invoke/MethodHandle" ∧ mz.1.cls ≠ "java/lang/invoke/VarHandle") (c5 : (parseMethodDescriptor mz.1.desc).map (fun d => d.parameters.length) = some n) (c6 : mz.2.2.2.2.1 + 1 ≤ mi.2.2.2.2.1) (c7 : 8 + (mz.2.2.1 + 11) + mz.2.2.2.2.2 ≤ mi.2.2.2.2.2)
    (hlk : Cond.methodLink mi.1.cls idx mz.1 ∈ lw_tb) (hk : Cond.static mz.1 ∈ lw_tb) (hd : decode mi.2.1 pc = .ok (.invokestatic idx, 3)) (hst : st = As.reverse ++ rest) (hn : As.length = n) (hcat : (rest.map fun v => v.category).sum ≤ 8)
    (k : ∀ r h1, P1 r h1 → rOk mz.2.2.2.1 r → Go G mi h0 P h1 (pc + 3) L (r.toList ++ rest)) : Go G mi h0 P h pc L st := by
  obtain ⟨r, h1, ⟨hro, e1, e2, hM⟩, hp⟩ := hE
  subst hst
  refine Go.step e1 e2 (fun p e R s m args below meth c Q H locs ls hC f1 f2 b1 b2 b3 b4 hR hL hl kk => ?_) (k r h1 hp hro)
  obtain ⟨hx, hb, hml, hown, hts, -, -, -, hKd⟩ := id hC
  have hlen : ∀ sig, parseMethodDescriptor mz.1.desc = some sig → n = sig.parameters.length := fun sig h => by
    rw [h] at c5
    exact (Option.some.inj c5).symm
  obtain ⟨mk, methM, cM, hnamed, hmethM, hcM, -, hlM, -, -, -, hsigM⟩ := Cond.codeWith_spec (hts _ c1)
  have hstatic : methM.isStatic = true := Cond.static_spec hnamed hmethM (hts _ hk)
  obtain ⟨kP, hkP, -⟩ := className_of_methodNamed hnamed
  have hinitP : kP.init = .initialized := Cond.initialized_spec (findClass_of_methodNamed hnamed) hkP (hts _ c2)
  intro T hTT X0
  obtain ⟨vm₁, X₁, hstep₁⟩ := X0.invokestatic hx hown (hts _ hlk) hnamed hmethM hstatic hkP hinitP c3 (g := F0 m pc ls (As.reverse ++ rest)) rfl (argsL := As) (rest := rest) (hn.trans (hlen _ hsigM)) rfl (by rw [hb]; exact hd)
  have hmM1 : (T.setVm vm₁).vm.method? mk = some methM := by
    rw [X₁.warmed.alike.method?]
    exact hmethM
  obtain ⟨o, t, hsteps, hend, hqq, L2, ⟨-, hWt, hsame⟩, hL2⟩ := callF X₁ (g := F0 m pc ls rest) rfl (by show ls.size = c.maxLocals; rw [hml]; exact hl.1) (ig := .invokestatic idx) (len := 3) (by rw [hb]; exact hd) (a := As.toArray) hM (X₁.named hnamed) hmM1 hcM (word_at X₁.warmed (tb_good _ c2) (hts _ c2))
    (fun w hw => by
      have hw2 : w ∈ lw_tb := by
        rcases List.mem_cons.mp hw with h | h
        · rw [h]; exact c1
        · exact h
      exact word_at X₁.warmed (tb_good w hw2) (hts w hw2))
    (by show mz.2.2.2.2.1 + 1 ≤ R.frames; omega) (by show 2 * 0 + (rest.map fun v => v.category).sum + (cM.maxLocals + 11) + mz.2.2.2.2.2 ≤ R.locals; rw [hlM]; omega) (by show hT h - hT h0 + (hT h1 - hT h) ≤ R.cells; omega) (by show hU h - hU h0 + (hU h1 - hU h) ≤ R.slots; omega)
    (pcA_blind _ _ _ _ ⟨rfl, by show Rp G h T.heap; rw [hTT]; exact hR, hKd.warm X₁.warmed⟩)
  obtain ⟨rfl, hRt⟩ := hqq
  obtain ⟨T', X', hW', hsm', ht⟩ := X₁.outOf (g := F0 m pc ls rest) rfl (ig := .invokestatic idx) (len := 3) (by rw [hb]; exact hd) hend hWt hsame
  have hTh : t.heap = T'.heap := by rw [ht]; rfl
  rw [show hT h - hT h0 + (hT h1 - hT h) = hT h1 - hT h0 by omega, show hU h - hU h0 + (hU h1 - hU h) = hU h1 - hU h0 by omega] at X'
  obtain ⟨t2, a1, b5⟩ := kk T'.heap (locs ++ L2) ls (by rw [← hTh]; exact hRt) (t_lL (free := Lk G) hL hL2) hl T' rfl X'
  exact ⟨t2, hstep₁ _ (fun acts => by rw [doInvoke_state]; exact hsteps.trans (by rw [ht]; exact a1)), b5⟩
