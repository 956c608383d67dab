/-! what stays the same in a run: the launch, the heap at its beginning, the numbers and slots of the kinds of objects, those of arrays -/
abbrev Gl : Type := Launch × Heap × va_G × (Nat → ClassId) × Prop × Nat × Nat × (Nat → Int32)
/-- may be written; the script's cell, its length, its ints -/
def gF (G : Gl) : Prop := G.2.2.2.2.1
def gB (G : Gl) : Nat := G.2.2.2.2.2.1
def gL (G : Gl) : Nat := G.2.2.2.2.2.2.1
def gX (G : Gl) : Nat → Int32 := G.2.2.2.2.2.2.2
/-- which cells a method may change: those of the run, where the last word of G lets it -/
def Lk (G : Gl) (q : Nat) : Prop := gF G ∧ G.2.1.size ≤ q
/-- an array's places: kinds 100 to 109 ints, 110 to 119 longs, from 120 on references -/
def eV (h : Hp) (kd a : Nat) : Nat → Value := fun j => if kd < 110 then .int (hA h a j) else if kd < 120 then .long (hL h a j) else va_rf (hQ h a j)
/-- an object's fields -/
def oV (h : Hp) (ty : Nat → FieldType) (off a : Nat) : Nat → Value := fun k => if (ty k).isReference = true then va_rf (hR h (off + k) a) else .int (hI h (off + k) a)
/-- the heap H holds what the pure heap h says -/
def Rp (G : Gl) (h : Hp) (H : Heap) : Prop :=
  hT h = H.size ∧ G.2.1.size ≤ hT h ∧ (∀ q : Nat, q < G.2.1.size → H[q]? = G.2.1[q]?) ∧
  (∀ a ci : Nat, hK h a = ci + 1 → ci < 90 → a < hT h ∧ G.2.1.size ≤ a ∧ ∃ r : vw_C, vwCl[ci]? = some r ∧ t_OB a (G.2.2.1.1 ci) r.2.2 (G.2.2.1.2 ci) H (oV h (tyC ci) (ofC ci) a)) ∧
  (∀ a : Nat, 100 ≤ hK h a → a < hT h ∧ G.2.1.size ≤ a ∧ H[a]? = some (arrV (G.2.2.2.1 (hK h a)) (hN h a) (eV h (hK h a) a)))
/-- a static's place, in the heap H -/
def va_LS (C n d : String) (U : State) (H : Heap) : Prop := ∃ (c : ClassId) (k : Class) (i : Nat) (f : Field) (a : Nat) (cell : Cell), U.vm.findClass C = some c ∧ U.fieldFound? C n d = some (c, k, i, f) ∧ f.isStatic = true ∧ k.statics = some a ∧ H[a]? = some cell ∧ cell.vm.isStatics = true ∧ cell.cls = c ∧ f.slot < cell.slots.size ∧ k.staticTypes[f.slot]? = some f.type
theorem va_LS.moved {C n d : String} {u U : State} {H : Heap} (hvm : u.vm.Alike U.vm) (h : va_LS C n d u H) : va_LS C n d U H := by
  obtain ⟨c, k, i, f, a, cell, hc, hi, hst, ha, hr⟩ := h
  obtain ⟨k', hi', he⟩ := State.fieldFound?_setVm hvm hi
  exact ⟨c, k', i, f, a, cell, by rw [hvm.findClass]; exact hc, hi', hst, by rw [he]; exact ha, hr.1, hr.2.1, hr.2.2.1, hr.2.2.2.1, by rw [he]; exact hr.2.2.2.2⟩
theorem va_LS.of {C n d : String} {args : Array Value} {s : State} (h : (Cond.laysStatic C n d).before args s = true) : va_LS C n d s s.heap := by
  obtain ⟨c, k, i, f, a, cell, hc, hi, hst, ha, hcell, hs, hcls, hlt, hty⟩ := Cond.laysStatic_spec h
  exact ⟨c, k, i, f, a, cell, hc, hi, hst, ha, hcell, hs, hcls, hlt, hty⟩
theorem va_LS.use {C n d : String} {args : Array Value} {s : State} {H0 : Heap} (h : va_LS C n d s H0) (hk : ∀ q : Nat, q < H0.size → s.heap[q]? = H0[q]?) : (Cond.laysStatic C n d).before args s = true := by
  obtain ⟨c, k, i, f, a, cell, hc, hi, hst, ha, hcell, hs, hcls, hlt, hty⟩ := h
  exact Cond.laysStatic_of hc hi hst ha (by rw [hk a (Array.getElem?_eq_some_iff.mp hcell).1]; exact hcell) hs hcls hlt hty
def exN : List String := ["java/lang/IllegalArgumentException", "java/lang/IllegalStateException", "java/util/NoSuchElementException"]
def exD : List MethodName := [⟨"java/lang/RuntimeException", "<init>", "(Ljava/lang/String;)V"⟩, ⟨"java/lang/Exception", "<init>", "(Ljava/lang/String;)V"⟩, ⟨"java/lang/Throwable", "<init>", "(Ljava/lang/String;)V"⟩]
/-- what an exception needs: no stack traces, two statics that are references, the texts -/
def Kx (G : Gl) (U : State) : Prop :=
  G.1.flags = pinnedFlags ++ [noTraceFlag] ∧ va_Zq "java/lang/Throwable" "UNASSIGNED_STACK" "[Ljava/lang/StackTraceElement;" (fun _ => False) U G.2.1 ∧ va_Zq "java/lang/Throwable" "SUPPRESSED_SENTINEL" "Ljava/util/List;" (fun _ => False) U G.2.1 ∧ va_X (gB G) (gL G) (gX G) U G.2.1 ∧ (∀ c1 c2, U.vm.findClass "java/lang/IllegalStateException" = some c1 → U.vm.findClass "java/lang/IllegalArgumentException" = some c2 → U.vm.assignable c1 c2 = false) ∧ (∀ q ∈ strK, ∃ a, vk_R q.1 q.2.1 q.2.2 a U) ∧
  va_LS "java/lang/Throwable" "UNASSIGNED_STACK" "[Ljava/lang/StackTraceElement;" U G.2.1 ∧ va_LS "java/lang/Throwable" "SUPPRESSED_SENTINEL" "Ljava/util/List;" U G.2.1 ∧ (∀ X ∈ exN, va_Nw (.castable X X) U) ∧ ∀ y ∈ exD, va_Nw (.declares y) U
theorem Kx.warm {G : Gl} {s U : State} (h : Kx G s) (hW : s.WarmedH U.vm) : Kx G U :=
  ⟨h.1, h.2.1.moved hW.alike, h.2.2.1.moved hW.alike, h.2.2.2.1.moved hW.alike, fun c1 c2 h1 h2 => by rw [hW.alike.assignable]; exact h.2.2.2.2.1 c1 c2 (by rw [← hW.alike.findClass]; exact h1) (by rw [← hW.alike.findClass]; exact h2), fun q hq => (h.2.2.2.2.2.1 q hq).imp fun _ ha => ha.warm hW, h.2.2.2.2.2.2.1.moved hW.alike, h.2.2.2.2.2.2.2.1.moved hW.alike, fun X hX => (h.2.2.2.2.2.2.2.2.1 X hX).warmC hW, fun y hy => (h.2.2.2.2.2.2.2.2.2 y hy).warmD hW⟩
theorem Kx.vm {G : Gl} {s U : State} (h : Kx G s) (hv : s.vm = U.vm) : Kx G U := by
  have ha : s.vm.Alike U.vm := by rw [hv]; exact Vm.Alike.refl U.vm
  exact ⟨h.1, h.2.1.moved ha, h.2.2.1.moved ha, h.2.2.2.1.moved ha, by rw [← hv]; exact h.2.2.2.2.1, fun q hq => (h.2.2.2.2.2.1 q hq).imp fun _ hb => hb.same hv.symm, h.2.2.2.2.2.2.1.moved ha, h.2.2.2.2.2.2.2.1.moved ha, fun X hX => (h.2.2.2.2.2.2.2.2.1 X hX).same rfl hv, fun y hy => (h.2.2.2.2.2.2.2.2.2 y hy).same rfl hv⟩
/-- what the tables say of objects and arrays -/
def Kd (G : Gl) (U : State) : Prop :=
  va_K G.2.2.1 vwCl [] U ∧ (∀ (kd : Nat) (t : FieldType), aT kd = some t → ArrOfT U (G.2.2.2.1 kd) t ∧ va_RA U (G.2.2.2.1 kd) t) ∧ (∀ C ∈ aoC, va_AO C U) ∧ (∀ q ∈ nestM, va_Nw (.methodLinkNest q.1 q.2.1 q.2.2.1 q.2.2.2) U) ∧ Kx G U
theorem Kd.warm {G : Gl} {s U : State} (h : Kd G s) (hW : s.WarmedH U.vm) : Kd G U :=
  ⟨va_K.moved hW.alike h.1, fun kd t hk => ⟨arrOfT_moved hW.alike (h.2.1 kd t hk).1, (h.2.1 kd t hk).2.moved hW.alike⟩, fun C hC => (h.2.2.1 C hC).moved hW.alike, fun q hq => (h.2.2.2.1 q hq).warmM hW, h.2.2.2.2.warm hW⟩
theorem Kd.vm {G : Gl} {s U : State} (h : Kd G s) (hv : s.vm = U.vm) : Kd G U := by
  have ha : s.vm.Alike U.vm := by rw [hv]; exact Vm.Alike.refl U.vm
  exact ⟨va_K.moved ha h.1, fun kd t hk => ⟨arrOfT_moved ha (h.2.1 kd t hk).1, (h.2.1 kd t hk).2.moved ha⟩, fun C hC => (h.2.2.1 C hC).moved ha, fun q hq => (h.2.2.2.1 q hq).same rfl hv, h.2.2.2.2.vm hv⟩
/-- a method: name, code, places of its frame, what it returns, frames and words that it may take -/
abbrev MI : Type := MethodName × ByteArray × Nat × Option FieldType × Nat × Nat
def wsy (mi : MI) : List Cond := Cond.code mi.1 mi.2.1 mi.2.2.1 mi.2.2.2.1 :: lw_tb
def Cx (G : Gl) (mi : MI) (p : Program) (s : State) (m : MethodId) (args : Array Value) (meth : Method) (c : Code) : Prop :=
  p.tables.exec = Jvm.exec ∧ c.code = mi.2.1 ∧ c.maxLocals = mi.2.2.1 ∧ s.vm.findClass mi.1.cls = some m.cls ∧ (∀ w ∈ lw_tb, w.before args s = true) ∧ meth.sig.returnType = mi.2.2.2.1 ∧ meth.locks = false ∧ (meth.name = mi.1.name ∧ s.methodNamed? mi.1 = some m) ∧ Kd G s
def rI : Option Value → ClassFile.Instr
  | none => .return_
  | some (.int _) => .ireturn
  | some (.long _) => .lreturn
  | some _ => .areturn
def rOk : Option FieldType → Option Value → Prop
  | none, none => True
  | some .int, some (.int _) => True
  | some .boolean, some (.int v) => narrow .boolean (.int v) = .int v
  | some .long, some (.long _) => True
  | some (.object _), some v => v = .null ∨ ∃ a, v = .ref a
  | some (.array _), some v => v = .null ∨ ∃ a, v = .ref a
  | _, _ => False
/-- the end of a walk: a return with r; or, marked by a float, the place where an exception is about to be made -/
def rE (mi : MI) (r : Option Value) (pc : Nat) : Prop := match r with
  | some (.float u) => pc = u.toNat
  | _ => decode mi.2.1 pc = .ok (rI r, 1)
def rS (r : Option Value) : List Value := match r with
  | some (.float _) => []
  | _ => r.toList
def mk (r : Option Value) : Prop := ∃ u, r = some (.float u)
theorem rOk_e {t : Option FieldType} {r : Option Value} (h : rOk t r) (mi : MI) (pc : Nat) : (rE mi r pc ↔ decode mi.2.1 pc = .ok (rI r, 1)) ∧ rS r = r.toList := by
  cases r with
  | none => exact ⟨Iff.rfl, rfl⟩
  | some v =>
    cases v with
    | float u => cases t with
      | none => exact h.elim
      | some t => cases t <;> first | exact h.elim | (rcases h with h | ⟨a, h⟩ <;> cases h)
    | _ => exact ⟨Iff.rfl, rfl⟩
/-- at a return with r, the heap being h', all is done -/
def Fi (G : Gl) (mi : MI) (h0 h' : Hp) (r : Option Value) (p : Program) (e : Env) (R : Room) (s : State) (m : MethodId) (args : Array Value) (below : List Frame) (meth : Method) (c : Code) (Q : State → Prop) : Prop :=
  ∀ (pc : Nat) (ls : Array Slot) (H : Heap) (locs : List Loc), Rp G h' H → (∀ q ∈ locs, Lk G q.base) → ls.size = mi.2.2.1 → rE mi r pc → W p G.1 e R s m args below meth c H locs (hT h' - hT h0) (hU h' - hU h0) Q (F0 m pc ls (rS r))
/-- from place pc with the pure heap h the method (begun at h0) comes to its end, with r and h' -/
def Rn (G : Gl) (mi : MI) (h0 h : Hp) (pc : Nat) (L : List (Nat × Value)) (st : List Value) (r : Option Value) (h' : Hp) : Prop :=
  (rOk mi.2.2.2.1 r ∨ mk r) ∧ hT h ≤ hT h' ∧ hU h ≤ hU h' ∧ ∀ (p : Program) (e : Env) (R : Room) (s : State) (m : MethodId) (args : Array Value) (below : List Frame) (meth : Method) (c : Code) (Q : State → Prop) (H : Heap) (locs : List Loc) (ls : Array Slot),
    Cx G mi p s m args meth c → mi.2.2.2.2.1 ≤ R.frames → mi.2.2.2.2.2 ≤ R.locals → hT h' ≤ hT h0 + R.cells → hU h' ≤ hU h0 + R.slots → hT h0 ≤ hT h → hU h0 ≤ hU h → Fi G mi h0 h' r p e R s m args below meth c Q →
    Rp G h H → (∀ q ∈ locs, Lk G q.base) → lv_has ls mi.2.2.1 L → W p G.1 e R s m args below meth c H locs (hT h - hT h0) (hU h - hU h0) Q (F0 m pc ls st)
def Go (G : Gl) (mi : MI) (h0 : Hp) (P : Option Value → Hp → Prop) (h : Hp) (pc : Nat) (L : List (Nat × Value)) (st : List Value) : Prop := ∃ r h', Rn G mi h0 h pc L st r h' ∧ P r h'
/-- a step of any kind, to the pure heap h2 -/
theorem Go.step {G : Gl} {mi : MI} {h0 h h2 : Hp} {P : Option Value → Hp → Prop} {pc pc2 : Nat} {L L2 : List (Nat × Value)} {st st2 : List Value} (hT2 : hT h ≤ hT h2) (hU2 : hU h ≤ hU h2)
    (hW : ∀ (p : Program) (e : Env) (R : Room) (s : State) (m : MethodId) (args : Array Value) (below : List Frame) (meth : Method) (c : Code) (Q : State → Prop) (H : Heap) (locs : List Loc) (ls : Array Slot),
      Cx G mi p s m args meth c → mi.2.2.2.2.1 ≤ R.frames → mi.2.2.2.2.2 ≤ R.locals → hT h2 ≤ hT h0 + R.cells → hU h2 ≤ hU h0 + R.slots → hT h0 ≤ hT h → hU h0 ≤ hU h → Rp G h H → (∀ q ∈ locs, Lk G q.base) → lv_has ls mi.2.2.1 L →
      (∀ (H2 : Heap) (locs2 : List Loc) (ls2 : Array Slot), Rp G h2 H2 → (∀ q ∈ locs2, Lk G q.base) → lv_has ls2 mi.2.2.1 L2 → W p G.1 e R s m args below meth c H2 locs2 (hT h2 - hT h0) (hU h2 - hU h0) Q (F0 m pc2 ls2 st2)) →
      W p G.1 e R s m args below meth c H locs (hT h - hT h0) (hU h - hU h0) Q (F0 m pc ls st))
    (k : Go G mi h0 P h2 pc2 L2 st2) : Go G mi h0 P h pc L st := by
  obtain ⟨r, h', ⟨h1, h3, h4, h5⟩, hp⟩ := k
  refine ⟨r, h', ⟨h1, Nat.le_trans hT2 h3, Nat.le_trans hU2 h4, ?_⟩, hp⟩
  intro p e R s m args below meth c Q H locs ls hC a1 a2 a3 a4 a5 a6 hF hR hL hl
  refine hW p e R s m args below meth c Q H locs ls hC a1 a2 (Nat.le_trans h3 a3) (Nat.le_trans h4 a4) a5 a6 hR hL hl ?_
  intro H2 locs2 ls2 hR2 hL2 hl2
  exact h5 p e R s m args below meth c Q H2 locs2 ls2 hC a1 a2 a3 a4 (Nat.le_trans a5 hT2) (Nat.le_trans a6 hU2) hF hR2 hL2 hl2
/-- a step that leaves the heap -/
theorem Go.pure {G : Gl} {mi : MI} {h0 h : Hp} {P : Option Value → Hp → Prop} {pc pc2 : Nat} {L L2 : List (Nat × Value)} {st st2 : List Value}
    (hW : ∀ (p : Program) (e : Env) (R : Room) (s : State) (m : MethodId) (args : Array Value) (below : List Frame) (meth : Method) (c : Code) (Q : State → Prop) (H : Heap) (locs : List Loc) (cells slots : Nat) (ls : Array Slot),
      Cx G mi p s m args meth c → Rp G h H → lv_has ls mi.2.2.1 L →
      (∀ (ls2 : Array Slot), lv_has ls2 mi.2.2.1 L2 → W p G.1 e R s m args below meth c H locs cells slots Q (F0 m pc2 ls2 st2)) →
      W p G.1 e R s m args below meth c H locs cells slots Q (F0 m pc ls st))
    (k : Go G mi h0 P h pc2 L2 st2) : Go G mi h0 P h pc L st :=
  Go.step (Nat.le_refl _) (Nat.le_refl _) (fun p e R s m args below meth c Q H locs ls hC _ _ _ _ _ _ hR hL hl kk => hW p e R s m args below meth c Q H locs _ _ ls hC hR hl (fun ls2 hl2 => kk H locs ls2 hR hL hl2)) k
theorem Go.weaken {G : Gl} {mi : MI} {h0 h : Hp} {P P' : Option Value → Hp → Prop} {pc : Nat} {L : List (Nat × Value)} {st : List Value} (hP : ∀ r h', P r h' → P' r h') (k : Go G mi h0 P h pc L st) : Go G mi h0 P' h pc L st := by
  obtain ⟨r, h', hr, hp⟩ := k
  exact ⟨r, h', hr, hP r h' hp⟩
theorem Go.locals {G : Gl} {mi : MI} {h0 h : Hp} {P : Option Value → Hp → Prop} {pc : Nat} {L L2 : List (Nat × Value)} {st : List Value} (ks : List Nat) (hk : lv_pick L ks = L2) (k : Go G mi h0 P h pc L2 st) : Go G mi h0 P h pc L st :=
  Go.pure (fun _ _ _ _ _ _ _ _ _ _ _ _ _ _ ls _ _ hl kk => kk ls (lv_sub hl ks hk)) k
theorem Go.eq {G : Gl} {mi : MI} {h0 h : Hp} {P : Option Value → Hp → Prop} {pc : Nat} {L L2 : List (Nat × Value)} {st st2 : List Value} (hL : L = L2) (hs : st = st2) (k : Go G mi h0 P h pc L2 st2) : Go G mi h0 P h pc L st := by subst hL; subst hs; exact k
/-- a return -/
theorem Go.ret {G : Gl} {mi : MI} {h0 h : Hp} {P : Option Value → Hp → Prop} {pc : Nat} {L : List (Nat × Value)} {st : List Value} (r : Option Value) (hr : rOk mi.2.2.2.1 r) (hst : st = r.toList) (hd : decode mi.2.1 pc = .ok (rI r, 1)) (hp : P r h) : Go G mi h0 P h pc L st := by
  subst hst
  refine ⟨r, h, ⟨Or.inl hr, Nat.le_refl _, Nat.le_refl _, ?_⟩, hp⟩
  intro p e R s m args below meth c Q H locs ls hC a1 a2 a3 a4 a5 a6 hF hR hL hl
  have key := hF pc ls H locs hR hL hl.1 ((rOk_e hr mi pc).1.mpr hd)
  rw [(rOk_e hr mi pc).2] at key
  exact key
/-- the place of an exception -/
theorem Go.stop {G : Gl} {mi : MI} {h0 h : Hp} {P : Option Value → Hp → Prop} {pc : Nat} {L : List (Nat × Value)} (u : UInt32) (hu : pc = u.toNat) (hp : P (some (.float u)) h) : Go G mi h0 P h pc L [] := by
  refine ⟨some (.float u), h, ⟨Or.inr ⟨u, rfl⟩, Nat.le_refl _, Nat.le_refl _, ?_⟩, hp⟩
  intro p e R s m args below meth c Q H locs ls hC a1 a2 a3 a4 a5 a6 hF hR hL hl
  exact hF pc ls H locs hR hL hl.1 hu
