/-! a word without a memory: votes, and the class to the meeting -/
theorem cn_zero (x : Int32) : x = 0 ↔ cn (bt x) 32 = 0 := by
  constructor
  · intro h
    rw [h]
    exact cn_0 32 (fun i _ => b_0 i)
  · intro h
    exact b_ext fun i hi => by rw [cn_eq0.mp h i hi, b_0]
theorem cn_all (x y : Int32) : (x &&& y) = y ↔ cn (bt (x &&& y)) 32 = cn (bt y) 32 := by
  constructor
  · intro h; rw [h]
  · intro h
    have sub : ∀ i, i < 32 → bt (x &&& y) i = true → bt y i = true := fun i _ z => by
      rw [b_and] at z
      exact (Bool.and_eq_true_iff.mp z).2
    have := (cn_sub_eq sub).2.mp h
    refine b_ext fun i hi => ?_
    cases z : bt y i with
    | true => exact this i hi z
    | false =>
      cases q : bt (x &&& y) i with
      | false => rfl
      | true => rw [sub i hi q] at z; cases z
theorem vote {P Q : Nat → Bool} {x dm vo : Int32} {ln : Nat} {o : Int32} (l32 : ln ≤ 32) (hd : ∀ i, i < 32 → bt dm i = Q i) (hl : ∀ i, i < 32 → bt dm i = true → i < ln) (hx : ∀ i, i < 32 → bt x i = P i) (ev : vo = vtF o (cn (fun i => Q i && P i) ln) (cn Q ln)) : (o = 72 → nI (cn (bt (x &&& dm)) 32) = vo) ∧ (o = 70 → (vo = 1 ↔ ¬ (x &&& dm) = 0)) ∧ (o = 71 → (vo = 1 ↔ (x &&& dm) = dm)) := by
  have e1 : cn (bt (x &&& dm)) 32 = cn (fun i => Q i && P i) ln := by
    rw [cn_ext l32 (fun i h1 h2 => by
      rw [b_and]
      cases z : bt dm i with
      | false => rw [Bool.and_false]
      | true => have := hl i h2 z; omega)]
    exact cn_congr ln fun i hi => by rw [b_and, hd i (by omega), hx i (by omega), Bool.and_comm]
  have e2 : cn (bt dm) 32 = cn Q ln := by
    rw [cn_ext l32 (fun i h1 h2 => by
      cases z : bt dm i with
      | false => rfl
      | true => have := hl i h2 z; omega)]
    exact cn_congr ln fun i hi => hd i (by omega)
  rw [← e1, ← e2] at ev
  refine ⟨fun h => ?_, fun h => ?_, fun h => ?_⟩
  · rw [ev]
    unfold vtF
    rw [if_neg (by rw [h]; decide), if_neg (by rw [h]; decide)]
  · rw [ev]
    unfold vtF
    rw [if_pos h, cn_zero]
    by_cases z : 0 < cn (bt (x &&& dm)) 32
    · rw [bI_t z]
      exact ⟨fun _ => by omega, fun _ => rfl⟩
    · rw [bI_f z]
      exact ⟨fun y => absurd y (by decide), fun y => absurd (Nat.pos_of_ne_zero y) z⟩
  · rw [ev]
    unfold vtF
    rw [if_neg (by rw [h]; decide), if_pos h, cn_all]
    by_cases z : cn (bt (x &&& dm)) 32 = cn (bt dm) 32
    · rw [bI_t z]
      exact ⟨fun _ => z, fun _ => rfl⟩
    · rw [bI_f z]
      exact ⟨fun y => absurd y (by decide), fun y => absurd y z⟩
theorem Wb.si {hc hr : Hp} {x m s ln b w rg pl pr ti L bl f a : Nat} {v : Int32} (B : Wb hc hr x m s ln b w rg pl pr ti L bl) (na : ¬ a = w) : Wb (sI hc f a v) hr x m s ln b w rg pl pr ti L bl := by
  have ii : ∀ g, hI (sI hc f a v) g w = hI hc g w := fun g => by rw [qI_sI, if_neg (fun z => na z.2.symm)]
  exact ⟨by rw [qR_sI]; exact B.blk, by rw [qQ_sI]; exact B.bq, B.sb, B.b64, by rw [ii]; exact B.num, B.wno, by rw [ii]; exact B.lns, B.lnL, fun i hi => by rw [ii]; exact B.pre i hi, fun i hi => by rw [ii]; exact B.end_ i hi, fun i hi => by rw [ii]; exact B.wai i hi, B.le, B.lw, fun i r hi hr => by rw [qA_sI]; exact B.reg i r hi hr, fun i hi => by rw [qA_sI]; exact B.pla i hi, fun p i hp hi => by rw [qA_sI]; exact B.prd p i hp hi, fun r hr => by rw [qA_sI]; exact B.tic r hr, by rw [ii]; exact B.mem⟩
/-- the slot and the word that goes -/
def GO (o : Nat → Nat) (hc H : Hp) (x m lo ln u s b w rg pl ro pr ti L bl wd : Nat) (v : Int64) : Prop := (Cd hc x) ∧ (Md H m) ∧ (x + 38 < lo) ∧ (s < 128) ∧ (u < 8) ∧ (hI H 705 m = nI ln) ∧ (∃ k, k ≤ 5 ∧ ln = 2 ^ k) ∧ (ln ≤ 32) ∧ (Ws o lo hc s w rg pl ro pr ti L) ∧ (Wb hc H x m s ln b w rg pl pr ti L bl) ∧ (hR hc 520 w = some wd) ∧ (WordIs hc wd v) ∧ (∀ i, i < 32 → bt (hI hc 518 w) i = gpB H m i) ∧ (∀ i, i < 32 → bt (hI hc 518 w) i = true → i < ln ∧ rAw H m s i ∧ hA H (m + 15) (32 * s + i) = hI hc 519 w) ∧ (hK hc bl = 8) ∧ (hI hc 448 bl = nI b) ∧ (hI hc 452 bl = hI H 717 m) ∧ (hI hc 451 bl = hI H 716 m)
theorem GO.C {o : Nat → Nat} {hc H : Hp} {x m lo ln u s b w rg pl ro pr ti L bl wd : Nat} {v : Int64} (X : GO o hc H x m lo ln u s b w rg pl ro pr ti L bl wd v) : Cd hc x := X.1
theorem GO.M {o : Nat → Nat} {hc H : Hp} {x m lo ln u s b w rg pl ro pr ti L bl wd : Nat} {v : Int64} (X : GO o hc H x m lo ln u s b w rg pl ro pr ti L bl wd v) : Md H m := X.2.1
theorem GO.lx {o : Nat → Nat} {hc H : Hp} {x m lo ln u s b w rg pl ro pr ti L bl wd : Nat} {v : Int64} (X : GO o hc H x m lo ln u s b w rg pl ro pr ti L bl wd v) : x + 38 < lo := X.2.2.1
theorem GO.hs {o : Nat → Nat} {hc H : Hp} {x m lo ln u s b w rg pl ro pr ti L bl wd : Nat} {v : Int64} (X : GO o hc H x m lo ln u s b w rg pl ro pr ti L bl wd v) : s < 128 := X.2.2.2.1
theorem GO.hu {o : Nat → Nat} {hc H : Hp} {x m lo ln u s b w rg pl ro pr ti L bl wd : Nat} {v : Int64} (X : GO o hc H x m lo ln u s b w rg pl ro pr ti L bl wd v) : u < 8 := X.2.2.2.2.1
theorem GO.hl {o : Nat → Nat} {hc H : Hp} {x m lo ln u s b w rg pl ro pr ti L bl wd : Nat} {v : Int64} (X : GO o hc H x m lo ln u s b w rg pl ro pr ti L bl wd v) : hI H 705 m = nI ln := X.2.2.2.2.2.1
theorem GO.lp {o : Nat → Nat} {hc H : Hp} {x m lo ln u s b w rg pl ro pr ti L bl wd : Nat} {v : Int64} (X : GO o hc H x m lo ln u s b w rg pl ro pr ti L bl wd v) : ∃ k, k ≤ 5 ∧ ln = 2 ^ k := X.2.2.2.2.2.2.1
theorem GO.l32 {o : Nat → Nat} {hc H : Hp} {x m lo ln u s b w rg pl ro pr ti L bl wd : Nat} {v : Int64} (X : GO o hc H x m lo ln u s b w rg pl ro pr ti L bl wd v) : ln ≤ 32 := X.2.2.2.2.2.2.2.1
theorem GO.W {o : Nat → Nat} {hc H : Hp} {x m lo ln u s b w rg pl ro pr ti L bl wd : Nat} {v : Int64} (X : GO o hc H x m lo ln u s b w rg pl ro pr ti L bl wd v) : Ws o lo hc s w rg pl ro pr ti L := X.2.2.2.2.2.2.2.2.1
theorem GO.B {o : Nat → Nat} {hc H : Hp} {x m lo ln u s b w rg pl ro pr ti L bl wd : Nat} {v : Int64} (X : GO o hc H x m lo ln u s b w rg pl ro pr ti L bl wd v) : Wb hc H x m s ln b w rg pl pr ti L bl := X.2.2.2.2.2.2.2.2.2.1
theorem GO.hw {o : Nat → Nat} {hc H : Hp} {x m lo ln u s b w rg pl ro pr ti L bl wd : Nat} {v : Int64} (X : GO o hc H x m lo ln u s b w rg pl ro pr ti L bl wd v) : hR hc 520 w = some wd := X.2.2.2.2.2.2.2.2.2.2.1
theorem GO.Wd {o : Nat → Nat} {hc H : Hp} {x m lo ln u s b w rg pl ro pr ti L bl wd : Nat} {v : Int64} (X : GO o hc H x m lo ln u s b w rg pl ro pr ti L bl wd v) : WordIs hc wd v := X.2.2.2.2.2.2.2.2.2.2.2.1
theorem GO.eg {o : Nat → Nat} {hc H : Hp} {x m lo ln u s b w rg pl ro pr ti L bl wd : Nat} {v : Int64} (X : GO o hc H x m lo ln u s b w rg pl ro pr ti L bl wd v) : ∀ i, i < 32 → bt (hI hc 518 w) i = gpB H m i := X.2.2.2.2.2.2.2.2.2.2.2.2.1
theorem GO.awk {o : Nat → Nat} {hc H : Hp} {x m lo ln u s b w rg pl ro pr ti L bl wd : Nat} {v : Int64} (X : GO o hc H x m lo ln u s b w rg pl ro pr ti L bl wd v) : ∀ i, i < 32 → bt (hI hc 518 w) i = true → i < ln ∧ rAw H m s i ∧ hA H (m + 15) (32 * s + i) = hI hc 519 w := X.2.2.2.2.2.2.2.2.2.2.2.2.2.1
theorem GO.kb {o : Nat → Nat} {hc H : Hp} {x m lo ln u s b w rg pl ro pr ti L bl wd : Nat} {v : Int64} (X : GO o hc H x m lo ln u s b w rg pl ro pr ti L bl wd v) : hK hc bl = 8 := X.2.2.2.2.2.2.2.2.2.2.2.2.2.2.1
theorem GO.bn {o : Nat → Nat} {hc H : Hp} {x m lo ln u s b w rg pl ro pr ti L bl wd : Nat} {v : Int64} (X : GO o hc H x m lo ln u s b w rg pl ro pr ti L bl wd v) : hI hc 448 bl = nI b := X.2.2.2.2.2.2.2.2.2.2.2.2.2.2.2.1
theorem GO.bt1 {o : Nat → Nat} {hc H : Hp} {x m lo ln u s b w rg pl ro pr ti L bl wd : Nat} {v : Int64} (X : GO o hc H x m lo ln u s b w rg pl ro pr ti L bl wd v) : hI hc 452 bl = hI H 717 m := X.2.2.2.2.2.2.2.2.2.2.2.2.2.2.2.2.1
theorem GO.bt2 {o : Nat → Nat} {hc H : Hp} {x m lo ln u s b w rg pl ro pr ti L bl wd : Nat} {v : Int64} (X : GO o hc H x m lo ln u s b w rg pl ro pr ti L bl wd v) : hI hc 451 bl = hI H 716 m := X.2.2.2.2.2.2.2.2.2.2.2.2.2.2.2.2.2

theorem GO.wp {o : Nat → Nat} {hc H : Hp} {x m lo ln u s b w rg pl ro pr ti L bl wd : Nat} {v : Int64} (E : GO o hc H x m lo ln u s b w rg pl ro pr ti L bl wd v) : Wp hc w rg pl ro pr ti ln := E.W.wp E.B.lns E.B.lnL
theorem GO.dng {F : Nat} {o : Nat → Nat} {hc H : Hp} {x m lo ln u s b w rg pl ro pr ti L bl wd : Nat} {v : Int64} (hF : 40000 ≤ F) (E : GO o hc H x m lo ln u s b w rg pl ro pr ti L bl wd v) : ∃ dm, f_Warp_doing F w hc = some (dm, hc) ∧ (∀ i, i < 32 → bt dm i = dD (rTake H m v) m s i) ∧ (∀ i, i < 32 → bt dm i = true → bt (hI hc 518 w) i = true) := by
  have tA : ∀ c j, hA (rTake H m v) c j = hA H c j := fun c j => by unfold rTake; simp only [qA_sI]
  obtain ⟨dm, d1, d2⟩ := do_bt (F := F) (H := rTake H m v) hF E.B E.wp E.hw E.Wd (fun i hi => by rw [E.eg i hi]; unfold gpB; rw [tA]) (rTake_r H m v).2.2.2.2.1 (fun i _ => tA _ _)
  refine ⟨dm, d1, d2, fun i hi z => ?_⟩
  rw [d2 i hi] at z
  unfold dD at z
  rw [E.eg i hi]
  have := (Bool.and_eq_true_iff.mp z).1
  unfold gpB at this ⊢
  rw [tA] at this
  exact this
theorem loc_class {F : Nat} {o : Nat → Nat} {hc H h2 : Hp} {x m lo ln u s b w rg pl ro pr ti L bl wd : Nat} {v : Int64} {dm c : Int32} (hF : 40000 ≤ F) (E : GO o hc H x m lo ln u s b w rg pl ro pr ti L bl wd v) (ed1 : f_Warp_doing F w hc = some (dm, hc)) (ed2 : ∀ i, i < 32 → bt dm i = dD (rTake H m v) m s i) (sub : ∀ i, i < 32 → bt dm i = true → bt (hI hc 518 w) i = true) (kk : kKnown (wOp v) (wN v)) (km : ¬ kMem (wOp v)) (okz : wOp v = 7 ∨ wOp v = 8 → ∀ i, i < ln → bt dm i = true → ¬ hA hc rg (16 * i + nB v) = 0) (R : RG H h2 m u s ln v) : ∃ hk, f_WM_go F x (some (x + 15 + 3 * u)) (some w) c hc = b_WM_go_225 F x w (if wOp v = 7 ∨ wOp v = 8 then sI (mrH hk w ti (kWr (wOp v) (wD v)) (c + kWait (wOp v)) (kMem (wOp v))) 390 (x + 15 + 3 * u) (c + kWait (wOp v)) else mrH hk w ti (kWr (wOp v) (wD v)) (c + kWait (wOp v)) (kMem (wOp v))) ∧ AF (goH hc x (x + 15 + 3 * u) pl rg ln (nA v) (hI hc 518 w) dm (wOp v) (wN v) (hI hc 519 w)) hk w rg pl ro pr ti ln bl (nD v) (wOp v) dm (lcR h2 m s (nA v) (nB v) ln) (fun i => decide (lT (wOp v) (wN v) (aX h2 m s (nA v) i) (aX h2 m s (nB v) i) (hI h2 762 m) (hs3 (hA h2 (m + 14) (32 * s + i)) (nI (nA v))) (hs3 (hA h2 (m + 14) (32 * s + i)) (nI (nB v))))) := by
  have C := E.C
  have W := E.W
  have B := E.B
  have Wd := E.Wd
  have Wp1 := E.wp
  have lx := E.lx
  have wl := W.bw
  have l32 := E.l32
  have hu := E.hu
  have Rr := R.R.rs (s := s)
  have dwx : ¬ wd = x + 11 := fun z => by have := Wd.k; rw [z, C.k_tally] at this; cases this
  have dwd : ¬ wd = x + 15 + 3 * u := fun z => by have := Wd.k; rw [z, (C.u u hu).2.1] at this; cases this
  have dbx : ¬ bl = x + 11 := fun z => by have := E.kb; rw [z, C.k_tally] at this; cases this
  have dbd : ¬ bl = x + 15 + 3 * u := fun z => by have := E.kb; rw [z, (C.u u hu).2.1] at this; cases this
  have o0 : 0 ≤ (wOp v).toInt := by rw [nO_is, nI_toInt (by have := nO_lt v; omega)]; omega
  have kn : ¬ hI hc 581 wd = 0 := by rw [Wd.known, bI_t kk]; decide
  have um : hI hc 585 wd = 0 := by rw [Wd.usesMemory]; exact bI_f km
  have us : hI hc 586 wd = 0 := by
    rw [Wd.usesShared]
    exact bI_f (fun z => km (by
      unfold kMem
      rcases z with z | z | z | z <;> rw [z] <;> decide))
  have inL : ∀ i, i < 32 → bt dm i = true → i < ln := fun i hi z => (E.awk i hi (sub i hi z)).1
  have eu : f_WM_unableOf F x (some w) (some wd) dm hc = some (0, hc) := by
    by_cases q : wOp v = 7 ∨ wOp v = 8
    · rw [c_unable_d hF Wp1 E.hw Wd.k (by rw [Wd.divides, bI_t q]; decide) (by rw [Wd.b]; exact nB_is v) (nB_lt v), mkM_0 ln (fun i hi => by
        cases z : bt dm i with
        | false => rfl
        | true => rw [Bool.true_and]; exact decide_eq_false (okz q i hi z))]
    · exact c_unable_n Wd.k (by rw [Wd.divides]; exact bI_f q) um
  have go := c_go_n (F := F) (c := c) hF C C W.k Wp1 hu E.hw Wd.k kn ed1 eu E.hw Wd.k (by omega) rfl Wd.op (by rw [Wd.a]; exact nA_is v) (nA_lt v) Wd.n rfl dwx
  dsimp only at go
  rw [if_pos us, if_pos um, Wd.wait] at go
  generalize hGe : goH hc x (x + 15 + 3 * u) pl rg ln (nA v) (hI hc 518 w) dm (wOp v) (wN v) (hI hc 519 w) = hG at *
  have gI : ∀ f a, ¬ a = x + 11 → ¬ a = x + 15 + 3 * u → hI hG f a = hI hc f a := fun f a z1 z2 => by rw [← hGe]; exact goH_I z1 (fun y => z2 y.2)
  have gK : hK hG = hK hc := by rw [← hGe, goH_K]
  have gN : hN hG = hN hc := by rw [← hGe, goH_N]
  have gR : hR hG = hR hc := by rw [← hGe, goH_R]
  have gA : ∀ a j, ¬ a = pl → hA hG a j = hA hc a j := fun a j z => by rw [← hGe, goH_A z]
  have WG : Wp hG w rg pl ro pr ti ln := Wp1.same gK gN (fun f _ _ => by rw [gR]) (gI _ _ (by omega) (by omega))
  have nrp : ¬ rg = pl := fun z => by have e1 := W.t_rg; have e2 := W.t_pl; rw [z] at e1; omega
  have npp : ¬ pr = pl := fun z => by have e1 := W.t_pr; have e2 := W.t_pl; rw [z] at e1; omega
  have reg : ∀ i r, i < ln → r < 16 → hA hG rg (16 * i + r) = hA h2 (m + 13) (16 * (32 * s + i) + r) := fun i r hi hr => by
    rw [gA _ _ nrp, B.reg i r hi hr, show 16 * (32 * s + i) + r = 512 * s + (16 * i + r) by omega, Rr.2.2.2.2 _ (by omega)]
  have prd : ∀ p i, i < 32 → p < 4 → bt (hA hG pr p) i = bt (hA h2 (m + 14) (32 * s + i)) p := fun p i hi hp => by
    rw [gA _ _ npp, B.prd p i hp hi, (Rr.2.2.2.1 i hi).1]
  have vt := vote (P := fun i => decide (rHas H m (32 * s + i) (wA v))) (Q := fun i => dD (rTake H m v) m s i) (x := hA hG pr (pn (nI (nA v)))) (dm := dm) (vo := hI h2 762 m) (o := wOp v) l32 ed2 inL (fun i hi => by
    rw [gA _ _ npp, B.prd _ i (pn_lt _) hi, ← nA_is]
    cases z : bt (hA H (m + 14) (32 * s + i)) (pn (wA v)) with
    | true => exact (decide_eq_true ((hs3_bt _ _).mpr z)).symm
    | false => exact (decide_eq_false (fun y => by rw [(hs3_bt _ _).mp y] at z; cases z)).symm) R.vo
  obtain ⟨v1, v2, v3⟩ := vt
  have lnI : hI hG 514 w = nI ln := by rw [gI _ _ (by omega) (by omega)]; exact B.lns
  obtain ⟨hk, a1, a2⟩ := act_af (F := F) (vo := hI h2 762 m) (X := aX h2 m s (nA v)) (Y := aX h2 m s (nB v)) (OL := fun i => hA h2 (m + 15) (32 * s + i)) (TV := fun i => tV h2 m s i (wN v)) (EX := fun i => if hA h2 (m + 27) (oth ln (wN v) i) = 0 then hA h2 (m + 28) i else hA h2 (m + 28) (oth ln (wN v) i)) (PR := fun i => hA h2 (m + 14) (32 * s + i)) (o := wOp v) (n := wN v) WG hF (wd := wd) (by rw [gR]; exact E.hw) (by rw [gK]; exact Wd.k) (bl := bl) (by rw [gR]; exact B.blk) (by rw [gK]; exact E.kb) (by rw [gI _ _ dwx dwd, Wd.a]; exact nA_is v) (nA_lt v) (by rw [gI _ _ dwx dwd, Wd.b]; exact nB_is v) (nB_lt v) (by rw [gI _ _ dwx dwd, Wd.d]; exact nD_is v) (nD_lt v) (by rw [gI _ _ dwx dwd]; exact Wd.op) (by rw [gI _ _ dwx dwd]; exact Wd.n) (by rw [gI _ _ dwx dwd, Wd.written, ← nD_is]) E.lp dm inL kk km o0 (fun i hi => reg i _ hi (nA_lt v)) (fun i hi => reg i _ hi (nB_lt v)) (fun i hi z => by
      rw [gI _ _ (by omega) (by omega), (Rr.2.2.2.1 i (by omega)).2.1]
      exact (E.awk i (by omega) (sub i (by omega) z)).2.2.symm) (fun i hi => by
      unfold abV tV
      rw [gI _ _ (by omega) (by omega), lnI, gI _ _ dbx dbd, gI _ _ dbx dbd, gI _ _ dbx dbd, E.bn, E.bt1, E.bt2, B.num, Rr.1.1, Rr.1.2, E.hl, Rr.2.1.1, Rr.2.1.2.1, B.sb, Int32.mul_comm, R.R.i (by omega)]) (fun h73 i hi z => by
      have lo := (oth_is E.lp (wN v) hi).2
      have hio : hA h2 (m + 28) i = hA hG rg (16 * i + nA v) := by
        rw [R.had i hi, if_pos (E.awk i (by omega) (sub i (by omega) z)).2.1.1, gA _ _ nrp, B.reg i _ hi (nA_lt v)]
      by_cases q : bt dm (oth ln (wN v) i) = true
      · have dq : ¬ hA h2 (m + 27) (oth ln (wN v) i) = 0 := of_decide_eq_true (show dsB h2 m (oth ln (wN v) i) = true by rw [R.ds _ (by omega), ← ed2 _ (by omega)]; exact q)
        rw [if_pos q, if_neg dq, R.had _ lo, if_pos (E.awk _ (by omega) (sub _ (by omega) q)).2.1.1, gA _ _ nrp, B.reg _ _ lo (nA_lt v)]
      · have dq : hA h2 (m + 27) (oth ln (wN v) i) = 0 := by
          have : dsB h2 m (oth ln (wN v) i) = false := by rw [R.ds _ (by omega), ← ed2 _ (by omega)]; simpa using q
          by_cases y : hA h2 (m + 27) (oth ln (wN v) i) = 0
          · exact y
          · rw [show dsB h2 m (oth ln (wN v) i) = true from decide_eq_true y] at this; cases this
        rw [if_neg q, if_pos dq, hio]) prd v1 v2 v3 (fun q i hi z => by
      have := okz q i hi z
      rw [← gA _ _ nrp, reg i _ hi (nB_lt v)] at this
      exact this)
  obtain ⟨s1, s2, s3, s4, s5, s6, s7⟩ := a2.same
  have kI : ∀ f a, ¬ a = x + 11 → ¬ a = x + 15 + 3 * u → ¬ a = w → ¬ a = bl → hI hk f a = hI hc f a := fun f a z1 z2 z3 z4 => by rw [a2.i5 _ _ (fun y => z3 y.2) (fun y => z3 y.2) (fun y => z4 y.2) (fun y => z4 y.2), gI _ _ z1 z2]
  have dww : ¬ wd = w := fun z => by have := Wd.k; rw [z, W.k] at this; cases this
  have dwb : ¬ wd = bl := fun z => by have := Wd.k; rw [z, E.kb] at this; cases this
  have wbl : ¬ w = bl := fun z => by have := W.k; rw [z, E.kb] at this; cases this
  have Wk : Wp hk w rg pl ro pr ti ln := WG.same s3 s4 (fun f _ _ => by rw [s5]) (a2.i5 _ _ (fun y => by cases y.1) (fun y => by cases y.1) (fun y => wbl y.2) (fun y => wbl y.2))
  have Wdk : WordIs hk wd v := Wd.same (by rw [s3, gK]) (fun f _ _ => kI f wd dwx dwd dww dwb)
  refine ⟨hk, ?_, ?_⟩
  · rw [go, a1, clv_some, c_go_201 hF Wk (by rw [s5, gR]; exact E.hw) Wdk (by rw [s3, gK]; exact (C.u u hu).2.1) (by omega) hu dwx]
  · have : (fun i => lR (wOp v) (wN v) (aX h2 m s (nA v) i) (aX h2 m s (nB v) i) (hA h2 (m + 15) (32 * s + i)) (tV h2 m s i (wN v)) (if hA h2 (m + 27) (oth ln (wN v) i) = 0 then hA h2 (m + 28) i else hA h2 (m + 28) (oth ln (wN v) i)) (hI h2 762 m) (hs3 (hA h2 (m + 14) (32 * s + i)) (wN v))) = lcR h2 m s (nA v) (nB v) ln := by
      funext i
      unfold lcR
      rw [R.f1, R.f6]
    rw [← this]
    exact a2
