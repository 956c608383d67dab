/-! THE CLAIM OUT OF ONE WALK OF THE LAW'S BODY. Your part is whole_start (and what it stands on); all else here is the same for every law, but numbers. -/
def R_law : String := "WarpMillLaw"
def lw_P (b : Addr) (xs : List Int32) (args : Array Value) (s : State) : Prop := args = #[.ref b] ∧ s.IntsAt b xs ∧ xs.length ≤ 3584 ∧ (Jvm.Cond.and given_1 narrow_1).before args s = true
def lw_Q (_ : Array Value) (s : State) (o : Outcome) (t : State) : Prop := o = .returned (some (.int 1)) ∧ Framed s o t [] 151480 8641666
def lw_Z (below : List Frame) (a : Array Value) (s : State) : State → Prop := fun t => ∃ o, t.status = .running ∧ Ended t below o ∧ lw_Q a s o t
/-- the law's own end, with 1 on the stack, nothing written that was there before, its room as the claim has it -/
theorem lw_ret {p : Program} {l : Launch} {e : Env} {s : State} {m : MethodId} {below : List Frame} {meth : Method} {c : Code} {b : Nat} (hx : p.tables.exec = Jvm.exec) (hb : c.code = code) (hr : meth.sig.returnType = ret) (hlocks : meth.locks = false) {pc : Nat} {H : Heap} {ls : Array Slot} (hdg : decode code pc = .ok (.ireturn, 1)) : W p l e room_1 s m #[Value.ref b] below meth c H [] 151480 8641666 (lw_Z below #[Value.ref b] s) (F0 m pc ls [.int 1]) := by
  intro T hT X
  obtain ⟨fs, hret, hrun, hended, hW, hframe⟩ := X.leave (v := some (.int 1)) (hlocks := hlocks) (fun h => by rw [hr] at h; cases h)
  have hmeth' : T.vm.method? m = some meth := X.method'
  refine ⟨T.setFrames fs, ?_, .returned (some (.int 1)), hrun, hended, rfl, ⟨_, rfl⟩, hW, hframe⟩
  jvm_step X.here [X.here.top, hx, hb, hdg, hmeth', hr, ret, narrow_b1]
  (try refine ⟨rfl, ?_⟩); (try refine ⟨rfl, ?_⟩)
  first | (intro acts; rw [hret _ acts rfl rfl rfl]) | rw [hret _ _ rfl rfl rfl]
  exact Steps.refl _
/-- what holds at the law's entry: the machine, the code, the tables' words (any of lw_tbl by 'hts w (by decide +kernel)'), the script of L ints xs at the cell b, what the Statement gives of the start (any of its parts by flat_of_before) -/
def lw_At (p : Program) (s : State) (m : MethodId) (meth : Method) (c : Code) (b L : Nat) (xs : Nat → Int32) : Prop :=
  p.tables.exec = Jvm.exec ∧ c.code = code ∧ meth.sig.returnType = ret ∧ c.maxLocals = 7 ∧ s.vm.findClass R_law = some m.cls ∧ (∀ w ∈ lw_tbl, w.before #[Value.ref b] s = true) ∧ va_X b L xs s s.heap ∧ b < s.heap.size ∧ meth.locks = false ∧ (Jvm.Cond.and given_1 narrow_1).before #[Value.ref b] s = true

/-- the pure heap at the law's beginning -/
def h00 (n : Nat) : Hp := (n, 0, fun _ => 0, fun _ => 0, fun _ _ => 0, fun _ _ => none, fun _ _ => 0, fun _ _ => none, fun _ _ => 0)
/-- WHAT IS LEFT: the law, read as a function, answers 1 on every script, within its room -/
def PureLaw : Prop := ∀ (L : Nat) (xs : Nat → Int32) (n : Nat), L ≤ 3584 → ∃ h', f_Law_law 40000 L xs (h00 n) = some (1, h') ∧ hT h' ≤ n + room_1.cells ∧ hU h' ≤ room_1.slots
theorem rp_00 {G : Gl} {H : Heap} (h : G.2.1 = H) : Rp G (h00 H.size) H := by
  refine ⟨rfl, by rw [h]; exact Nat.le_refl _, fun q hq => by rw [h], fun a ci hk hci => ?_, fun a hk => ?_⟩
  · exact absurd (show 0 = ci + 1 from hk) (by omega)
  · exact absurd (show 100 ≤ 0 from hk) (by omega)
set_option maxRecDepth 100000 in
set_option maxHeartbeats 4000000 in
theorem kd_start {l : Launch} {s : State} {b L : Nat} {xs : Nat → Int32} {args : Array Value} (hts : ∀ w ∈ lw_tbl, w.before args s = true) (hfl : l.flags = flags0) (hX : va_X b L xs s s.heap) (hgv : (Jvm.Cond.and given_1 narrow_1).before args s = true) : ∃ (D : va_G) (cls : Nat → ClassId), Kd (l, s.heap, D, cls, True, b, L, xs) s := by
  have hs := flat_of_before _ hgv
  have htb : ∀ w ∈ lw_tb, w.before args s = true := fun w hw => hts w (List.mem_filter.mp hw).1
  obtain ⟨c0, i0, k0⟩ := u_known (ws := lw_tb) htb okWM.2.2.1 (htb _ wn_WM)
  obtain ⟨c1, i1, k1⟩ := u_known (ws := lw_tb) htb okSizes.2.2.1 (htb _ wn_Sizes)
  obtain ⟨c2, i2, k2⟩ := u_known (ws := lw_tb) htb okMemory.2.2.1 (htb _ wn_Memory)
  obtain ⟨c3, i3, k3⟩ := u_known (ws := lw_tb) htb okCache.2.2.1 (htb _ wn_Cache)
  obtain ⟨c4, i4, k4⟩ := u_known (ws := lw_tb) htb okPending.2.2.1 (htb _ wn_Pending)
  obtain ⟨c5, i5, k5⟩ := u_known (ws := lw_tb) htb okTally.2.2.1 (htb _ wn_Tally)
  obtain ⟨c6, i6, k6⟩ := u_known (ws := lw_tb) htb okUnit.2.2.1 (htb _ wn_Unit)
  obtain ⟨c7, i7, k7⟩ := u_known (ws := lw_tb) htb okBlock.2.2.1 (htb _ wn_Block)
  obtain ⟨c8, i8, k8⟩ := u_known (ws := lw_tb) htb okWarp.2.2.1 (htb _ wn_Warp)
  obtain ⟨c9, i9, k9⟩ := u_known (ws := lw_tb) htb okWord.2.2.1 (htb _ wn_Word)
  obtain ⟨c10, i10, k10⟩ := u_known (ws := lw_tb) htb okAsk.2.2.1 (htb _ wn_Ask)
  obtain ⟨c11, i11, k11⟩ := u_known (ws := lw_tb) htb okMod.2.2.1 (htb _ wn_Mod)
  obtain ⟨c12, i12, k12⟩ := u_known (ws := lw_tb) htb okIAE.2.2.1 (htb _ wn_IAE)
  obtain ⟨c13, i13, k13⟩ := u_known (ws := lw_tb) htb okISE.2.2.1 (htb _ wn_ISE)
  obtain ⟨c14, i14, k14⟩ := u_known (ws := lw_tb) htb okNSE.2.2.1 (htb _ wn_NSE)
  obtain ⟨a100, q100, p100, f100, g100, e100⟩ := Cond.arrayClass_spec (htb _ wA_int)
  obtain ⟨a101, q101, p101, f101, g101, e101⟩ := Cond.arrayClass_spec (htb _ wA_boolean)
  obtain ⟨a110, q110, p110, f110, g110, e110⟩ := Cond.arrayClass_spec (htb _ wA_long)
  obtain ⟨p120, a120, q120, n120, -, g120, e120, f120⟩ := Cond.arrayOver_spec (hts (.arrayOver (.object "WarpMill$Word")) (List.mem_of_getElem? (i := 134) (by decide +kernel)))
  obtain ⟨p121, a121, q121, n121, -, g121, e121, f121⟩ := Cond.arrayOver_spec (hts (.arrayOver (.object "WarpMill$Unit")) (List.mem_of_getElem? (i := 263) (by decide +kernel)))
  obtain ⟨p122, a122, q122, n122, -, g122, e122, f122⟩ := Cond.arrayOver_spec (hts (.arrayOver (.object "WarpMill$Block")) (List.mem_of_getElem? (i := 265) (by decide +kernel)))
  obtain ⟨p123, a123, q123, n123, -, g123, e123, f123⟩ := Cond.arrayOver_spec (hts (.arrayOver (.object "WarpMill$Warp")) (List.mem_of_getElem? (i := 367) (by decide +kernel)))
  obtain ⟨p124, a124, q124, n124, -, g124, e124, f124⟩ := Cond.arrayOver_spec (hts (.arrayOver (.object "WarpMill$Ask")) (List.mem_of_getElem? (i := 173) (by decide +kernel)))
  refine ⟨(fun c => if c = 0 then c0 else if c = 1 then c1 else if c = 2 then c2 else if c = 3 then c3 else if c = 4 then c4 else if c = 5 then c5 else if c = 6 then c6 else if c = 7 then c7 else if c = 8 then c8 else if c = 9 then c9 else if c = 10 then c10 else if c = 11 then c11 else if c = 12 then c12 else if c = 13 then c13 else if c = 14 then c14 else c0, fun c => if c = 0 then i0 else if c = 1 then i1 else if c = 2 then i2 else if c = 3 then i3 else if c = 4 then i4 else if c = 5 then i5 else if c = 6 then i6 else if c = 7 then i7 else if c = 8 then i8 else if c = 9 then i9 else if c = 10 then i10 else if c = 11 then i11 else if c = 12 then i12 else if c = 13 then i13 else if c = 14 then i14 else i0), fun kd => if kd = 100 then a100 else if kd = 101 then a101 else if kd = 110 then a110 else if kd = 120 then a120 else if kd = 121 then a121 else if kd = 122 then a122 else if kd = 123 then a123 else if kd = 124 then a124 else a100, ⟨?_, fun k q hk => by cases hk⟩, ?_, ?_, ?_, hfl, ?_, ?_, hX, ?_, ?_, ?_, ?_, ?_, ?_⟩
  · intro c q hq
    have hc : c < 15 := (List.getElem?_eq_some_iff.mp hq).1
    match c, hc with
    | 0, _ => cases Option.some.inj (hq.symm.trans okWM.1); exact k0
    | 1, _ => cases Option.some.inj (hq.symm.trans okSizes.1); exact k1
    | 2, _ => cases Option.some.inj (hq.symm.trans okMemory.1); exact k2
    | 3, _ => cases Option.some.inj (hq.symm.trans okCache.1); exact k3
    | 4, _ => cases Option.some.inj (hq.symm.trans okPending.1); exact k4
    | 5, _ => cases Option.some.inj (hq.symm.trans okTally.1); exact k5
    | 6, _ => cases Option.some.inj (hq.symm.trans okUnit.1); exact k6
    | 7, _ => cases Option.some.inj (hq.symm.trans okBlock.1); exact k7
    | 8, _ => cases Option.some.inj (hq.symm.trans okWarp.1); exact k8
    | 9, _ => cases Option.some.inj (hq.symm.trans okWord.1); exact k9
    | 10, _ => cases Option.some.inj (hq.symm.trans okAsk.1); exact k10
    | 11, _ => cases Option.some.inj (hq.symm.trans okMod.1); exact k11
    | 12, _ => cases Option.some.inj (hq.symm.trans okIAE.1); exact k12
    | 13, _ => cases Option.some.inj (hq.symm.trans okISE.1); exact k13
    | 14, _ => cases Option.some.inj (hq.symm.trans okNSE.1); exact k14
  · intro kd t ht
    unfold aT at ht
    split at ht
    · cases ht; exact ⟨fun N z => ⟨(fun k h => by cases h), q100, g100, p100, e100⟩, f100⟩
    · cases ht; exact ⟨fun N z => ⟨(fun k h => by cases h), q101, g101, p101, e101⟩, f101⟩
    · cases ht; exact ⟨fun N z => ⟨(fun k h => by cases h), q110, g110, p110, e110⟩, f110⟩
    · cases ht; exact ⟨fun N z => ⟨(fun k h => by cases h), q120, g120, p120, e120⟩, q120, p120, g120, e120, n120, f120⟩
    · cases ht; exact ⟨fun N z => ⟨(fun k h => by cases h), q121, g121, p121, e121⟩, q121, p121, g121, e121, n121, f121⟩
    · cases ht; exact ⟨fun N z => ⟨(fun k h => by cases h), q122, g122, p122, e122⟩, q122, p122, g122, e122, n122, f122⟩
    · cases ht; exact ⟨fun N z => ⟨(fun k h => by cases h), q123, g123, p123, e123⟩, q123, p123, g123, e123, n123, f123⟩
    · cases ht; exact ⟨fun N z => ⟨(fun k h => by cases h), q124, g124, p124, e124⟩, q124, p124, g124, e124, n124, f124⟩
    · cases ht
  · intro C hC
    simp only [aoC, List.mem_cons, List.not_mem_nil, or_false] at hC
    rcases hC with rfl | rfl | rfl | rfl | rfl
    · exact va_AO.of (hts _ (List.mem_of_getElem? (i := 134) (by decide +kernel)))
    · exact va_AO.of (hts _ (List.mem_of_getElem? (i := 263) (by decide +kernel)))
    · exact va_AO.of (hts _ (List.mem_of_getElem? (i := 265) (by decide +kernel)))
    · exact va_AO.of (hts _ (List.mem_of_getElem? (i := 367) (by decide +kernel)))
    · exact va_AO.of (hts _ (List.mem_of_getElem? (i := 173) (by decide +kernel)))
  · intro q hq
    simp only [nestM, List.mem_cons, List.not_mem_nil, or_false] at hq
    rcases hq with rfl | rfl | rfl | rfl | rfl | rfl | rfl | rfl
    · exact va_Nw.of rfl (hts _ (List.mem_of_getElem? (i := 104) (by decide +kernel)))
    · exact va_Nw.of rfl (hts _ (List.mem_of_getElem? (i := 137) (by decide +kernel)))
    · exact va_Nw.of rfl (hts _ (List.mem_of_getElem? (i := 168) (by decide +kernel)))
    · exact va_Nw.of rfl (hts _ (List.mem_of_getElem? (i := 207) (by decide +kernel)))
    · exact va_Nw.of rfl (hts _ (List.mem_of_getElem? (i := 813) (by decide +kernel)))
    · exact va_Nw.of rfl (hts _ (List.mem_of_getElem? (i := 884) (by decide +kernel)))
    · exact va_Nw.of rfl (hts _ (List.mem_of_getElem? (i := 890) (by decide +kernel)))
    · exact va_Nw.of rfl (hts _ (List.mem_of_getElem? (i := 908) (by decide +kernel)))
  · exact va_Zqof (hts (.laysStatic "java/lang/Throwable" "UNASSIGNED_STACK" "[Ljava/lang/StackTraceElement;") (List.mem_of_getElem? (i := 573) (by decide +kernel))) (htb _ wi_Throwable) (hs (.isRef (.static "java/lang/Throwable" "UNASSIGNED_STACK" "[Ljava/lang/StackTraceElement;")) (by decide +kernel)) (fun _ _ q => q)
  · exact va_Zqof (hts (.laysStatic "java/lang/Throwable" "SUPPRESSED_SENTINEL" "Ljava/util/List;") (List.mem_of_getElem? (i := 575) (by decide +kernel))) (htb _ wi_Throwable) (hs (.isRef (.static "java/lang/Throwable" "SUPPRESSED_SENTINEL" "Ljava/util/List;")) (by decide +kernel)) (fun _ _ q => q)
  · intro c1 c2 h1 h2
    have hn := hs (.not (.castable "java/lang/IllegalStateException" "java/lang/IllegalArgumentException")) (by decide +kernel)
    simpa [Cond.before, Cond.holds, Cond.value, h1, h2] using hn
  · intro q hq
    simp only [strK, List.mem_cons, List.not_mem_nil, or_false] at hq
    rcases hq with rfl | rfl | rfl | rfl | rfl
    · obtain ⟨a, _, _, _, q1, -⟩ := Cond.exactly_spec (hs (.exactly (.string "WarpMill" 98) "java/lang/String") (by decide +kernel))
      exact ⟨a, vk_R.of (hts _ (List.mem_of_getElem? (i := 587) (by decide +kernel))) q1⟩
    · obtain ⟨a, _, _, _, q1, -⟩ := Cond.exactly_spec (hs (.exactly (.string "WarpMill" 108) "java/lang/String") (by decide +kernel))
      exact ⟨a, vk_R.of (hts _ (List.mem_of_getElem? (i := 623) (by decide +kernel))) q1⟩
    · obtain ⟨a, _, _, _, q1, -⟩ := Cond.exactly_spec (hs (.exactly (.string "WarpMill" 131) "java/lang/String") (by decide +kernel))
      exact ⟨a, vk_R.of (hts _ (List.mem_of_getElem? (i := 1011) (by decide +kernel))) q1⟩
    · obtain ⟨a, _, _, _, q1, -⟩ := Cond.exactly_spec (hs (.exactly (.string "WarpMill" 168) "java/lang/String") (by decide +kernel))
      exact ⟨a, vk_R.of (hts _ (List.mem_of_getElem? (i := 1029) (by decide +kernel))) q1⟩
    · obtain ⟨a, _, _, _, q1, -⟩ := Cond.exactly_spec (hs (.exactly (.string "WarpMill" 177) "java/lang/String") (by decide +kernel))
      exact ⟨a, vk_R.of (hts _ (List.mem_of_getElem? (i := 1041) (by decide +kernel))) q1⟩
  · exact va_LS.of (hts (.laysStatic "java/lang/Throwable" "UNASSIGNED_STACK" "[Ljava/lang/StackTraceElement;") (List.mem_of_getElem? (i := 573) (by decide +kernel)))
  · exact va_LS.of (hts (.laysStatic "java/lang/Throwable" "SUPPRESSED_SENTINEL" "Ljava/util/List;") (List.mem_of_getElem? (i := 575) (by decide +kernel)))
  · intro X hX
    simp only [exN, List.mem_cons, List.not_mem_nil, or_false] at hX
    rcases hX with rfl | rfl | rfl
    · exact va_Nw.of rfl (hts _ (List.mem_of_getElem? (i := 548) (by decide +kernel)))
    · exact va_Nw.of rfl (hts _ (List.mem_of_getElem? (i := 616) (by decide +kernel)))
    · exact va_Nw.of rfl (hts _ (List.mem_of_getElem? (i := 1004) (by decide +kernel)))
  · intro y hy
    simp only [exD, List.mem_cons, List.not_mem_nil, or_false] at hy
    rcases hy with rfl | rfl | rfl
    · exact va_Nw.of rfl (hts _ (List.mem_of_getElem? (i := 550) (by decide +kernel)))
    · exact va_Nw.of rfl (hts _ (List.mem_of_getElem? (i := 552) (by decide +kernel)))
    · exact va_Nw.of rfl (hts _ (List.mem_of_getElem? (i := 554) (by decide +kernel)))
theorem law_start (PL : PureLaw) {p : Program} {e : Env} {s : State} {m : MethodId} {below : List Frame} {meth : Method} {c : Code} (l : Launch) (hfl : l.flags = flags0) {b L : Nat} {xs : Nat → Int32} (hL : L ≤ 3584) (hnm : meth.name = x.name ∧ s.methodNamed? x = some m) (C0 : lw_At p s m meth c b L xs) : W p l e room_1 s m #[Value.ref b] below meth c s.heap [] 0 0 (lw_Z below #[Value.ref b] s) (entryFrame m ([Value.ref b] : List Value).toArray 7) := by
  obtain ⟨hx, hb, hr, hml, hown, hts, hX, hbl, hlocks, hgv⟩ := C0
  obtain ⟨D, cls, hKd⟩ := kd_start (l := l) hts hfl hX hgv
  have htb : ∀ w ∈ lw_tb, w.before #[Value.ref b] s = true := fun w hw => hts w (List.mem_filter.mp hw).1
  obtain ⟨h', hf, hc, hu⟩ := PL L xs s.heap.size (Nat.le_trans hL (by decide))
  obtain ⟨r, h2, ⟨-, e1, e2, hRn⟩, hp1, hp2⟩ := e_Law_law (G := (l, s.heap, D, cls, True, b, L, xs)) trivial hf
  subst hp1
  subst hp2
  rw [lg_entry_eq]
  have key := hRn p e room_1 s m #[Value.ref b] below meth c (lw_Z below #[Value.ref b] s) s.heap [] _ ⟨hx, hb, hml, hown, htb, hr, hlocks, hnm, hKd⟩ (Nat.le_of_ble_eq_true rfl) (Nat.le_of_ble_eq_true rfl) hc (by show hU h2 ≤ 0 + _; rw [Nat.zero_add]; exact hu) (Nat.le_refl _) (Nat.le_refl _) ?_ (rp_00 rfl) (fun q hq => by cases hq) (lv_entry [Value.ref b] (Nat.le_of_ble_eq_true rfl))
  · rw [Nat.sub_self, Nat.sub_self] at key
    exact key
  · intro pc ls H locs hR hL2 _ hd
    intro T hTT X
    have X1 : Stand p l e room_1 s m #[Value.ref b] below meth c T [] 151480 8641666 :=
      { X with same := X.same.weaken (fun y hy hlt => absurd hlt (Nat.not_lt.mpr (hL2 y hy).2)) (by show hT h2 - s.heap.size ≤ 151480; have : hT h2 ≤ s.heap.size + 151480 := hc; omega) (by show hU h2 - 0 ≤ 8641666; have : hU h2 ≤ 8641666 := hu; omega) }
    exact lw_ret hx hb hr hlocks hd T hTT X1
set_option maxHeartbeats 4000000 in
theorem lw_walk (PL : PureLaw) (l : Launch) (hfl : l.flags = flags0) (b : Addr) (xs : List Int32) : MetFree l x (headSpec (Jvm.Cond.code x code maxLocals ret :: tables_1) room_1) (lw_P b xs) (fun _ _ _ _ _ => True) lw_Q := by
  refine MetFree.of_bodyS (code := code) (maxLocals := maxLocals) (ret := ret) (by decide) ?_ ?_
  · intro args s m h hn
    obtain ⟨meth, c, h1, h2, h3, h4, h5, h6, -, -⟩ := Cond.code_spec hn (atoms_spec (ws := Jvm.Cond.code x code maxLocals ret :: tables_1) h _ List.mem_cons_self)
    exact ⟨meth, c, h1, h2, h3, h4, h5, h6⟩
  · intro p e s m args below meth c s₁ B hml0 hP _
    obtain ⟨rfl, hx, hbd, hgv⟩ := hP
    obtain ⟨scr, harrAt, hlist, hof, hsmall⟩ := hx
    obtain ⟨hcb, hkn, -, -⟩ := State.arrayAt?_spec harrAt
    have hown : s.vm.findClass R_law = some m.cls := findClass_of_methodNamed B.named
    have hts0 : ∀ c ∈ (Jvm.Cond.code x code maxLocals ret :: tables_1), c.before #[Value.ref b] s = true := atoms_spec (ws := Jvm.Cond.code x code maxLocals ret :: tables_1) B.pre
    have hts : ∀ w ∈ lw_tbl, w.before #[Value.ref b] s = true := k2_hts_sels lw_privs (fun w hw => hts0 w (List.mem_cons_of_mem _ hw)) lw_privs_ok
    have hml : c.maxLocals = 7 := B.maxLocals_eq (hts0 _ List.mem_cons_self)
    have X₀ : Stand p l e room_1 s m #[Value.ref b] below meth c s₁ [] 0 0 := Stand.of_body B
    have hh0 : s₁.heap = s.heap := by rw [B.state]; rfl
    have hsz : scr.slots.size = xs.length := by rw [← Array.length_toList, hlist, List.length_map]
    have hval : ∀ j : Nat, j < xs.length → scr.slots[j]? = some (.int (xs.getD j 0)) := fun j hj => by
      rw [← Array.getElem?_toList, hlist]
      simp [hj]
    have hbl : b < s.heap.size := (Array.getElem?_eq_some_iff.mp hcb).1
    have hX : va_X b xs.length (fun j => xs.getD j 0) s s.heap := ⟨scr, hcb, hof, hkn, hsz, hval⟩
    have K : W p l e room_1 s m #[Value.ref b] below meth c s₁.heap [] 0 0 (lw_Z below #[Value.ref b] s) (entryFrame m ([Value.ref b] : List Value).toArray 7) := by
      rw [hh0]
      exact law_start PL l hfl hbd ⟨(name_of_methodNamed B.named B.method).1, B.named⟩ ⟨B.exec, B.bytes, B.returns, hml, hown, hts, hX, hbl, B.notSynchronized, hgv⟩
    obtain ⟨t, a1, o, b1, b2, b3⟩ := K s₁ rfl X₀
    exact ⟨t, o, a1, b1, b2, b3⟩
theorem lw_pre_spec {args : Array Value} {s : State} (h : (Jvm.Cond.and given_1 narrow_1).before args s = true) (hr : rest_1_c.before args s = true) : ∃ (b : Addr) (xs : List Int32), lw_P b xs args s := by
  have hs := flat_of_before _ h
  have hq := flat_of_before _ hr
  have hc : (Cond.count 1).before args s = true := hs _ (by decide +kernel)
  have harr : (Cond.arrayOf (.arg 0) .int).before args s = true := hs _ (by decide +kernel)
  have hle : (Cond.le (.length (.arg 0)) (.int 3584)).before args s = true := hs _ (by decide +kernel)
  have hlen : (Cond.isInt (.length (.arg 0))).before args s = true := hq _ (by decide +kernel)
  have hall : (Cond.all (.arg 0) (.isInt (.elem (.arg 0) (.index 0)))).before args s = true := hq _ (by decide +kernel)
  obtain ⟨b, xs, hb, hx⟩ := State.ints_of_pre rfl harr hlen hall
  have hsm : xs.length < 2 ^ 31 := hx.choose_spec.2.2.2
  have hev : (Term.length (.arg 0)).eval args s none [] s = some (.int xs.length.toInt32) := hx.length_eval hb
  have hv := Cond.le_ints hev (show (Term.int 3584).eval args s none [] s = some (.int 3584) from rfl)
  have hd : xs.length.toInt32 ≤ 3584 := by
    simpa [Cond.before, Cond.holds, hv] using hle
  have hN : xs.length ≤ 3584 := (Int32.ofNat_le_ofNat hsm (by decide)).mp (show Int32.ofNat xs.length ≤ Int32.ofNat 3584 from hd)
  exact ⟨b, xs, Cond.one_arg hc (show args[0]? = some (.ref b) from hb), hx, hN, h⟩
theorem lw_comes (PL : PureLaw) (l : Launch) (hfl : l.flags = flags0) : Comes l x (Jvm.Cond.code x code maxLocals ret :: tables_1) room_1 (fun tb e args s => Calls_1 tb e args s ∧ rest_1 tb e args s ∧ Pre_1 tb e args s)
    (fun _ _ args s o t => lw_Q args s o t) := by
  intro p e ha hc hk s m args below hf hfit hheap happ hpre
  obtain ⟨b, xs, hP⟩ := lw_pre_spec hpre.2.2 hpre.2.1
  obtain ⟨k, o, h1, h2, h3, hQ⟩ := lw_walk PL l hfl b xs p e ha hc hk s m args below hf ((Spec.applies_iff_loose hf).mp happ).1 hP trivial
  exact ⟨k, o, h1, h2, h3, hQ⟩
theorem lw_frame {s t : State} {o : Outcome} {args : Array Value} (h : Framed s o t [] 151480 8641666) :
    Framed s o t (fieldLocs frame_1_writes args s ++ arrayLocs frame_1_arrays args s ++ staticLocs frame_1_statics s) 151480 8641666 := h
theorem lw_limb (PL : PureLaw) (L : Cond) (hL : ∀ (args : Array Value) (s t : State), L.after args s (.returned (some (.int 1))) t = true) :
    ArmFor flags0 classFile x code maxLocals ret World_1 tables_1 room_1 Calls_1 rest_1 Pre_1
      (fun tb e a s o t => postC L tb e a s o t ∧ Framed s o t (fieldLocs frame_1_writes a s ++ arrayLocs frame_1_arrays a s ++ staticLocs frame_1_statics s) 151480 8641666) := by
  intro l hfl _ _ p e ha hc hk s m args below hf hfit hheap happ hpre
  obtain ⟨k, o, h1, h2, h3, rfl, hF⟩ := lw_comes PL l hfl p e ha hc hk s m args below hf hfit hheap happ hpre
  exact ⟨k, _, h1, h2, h3, hL args s _, lw_frame hF⟩
theorem i_vc_of (PL : PureLaw) : Claimed_1_1 ∧ Claimed_1_2 := ⟨lw_limb PL limb_1_1 (fun args s t => by simp [limb_1_1, Cond.after, Cond.holds, Cond.value]), lw_limb PL limb_1_2 (fun args s t => Cond.after_iff.mpr (by
  first | (rw [show limb_1_2 = Cond.eq .result (.int 1) from rfl, Cond.eq_ints (x := 1) (y := 1) rfl rfl]; simp; done) | (simp [limb_1_2, Cond.value, Term.eval]; done)))⟩

