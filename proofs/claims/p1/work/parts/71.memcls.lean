/-! words of the memories: the class, up to the memory -/
theorem vl_is {val : Int32} {bd : Nat} (hb : bd ≤ 4096) (ok : ¬ (val < 0 ∨ ¬ val < nI bd)) : val = nI val.toNatClampNeg ∧ val.toNatClampNeg < bd := by
  rcases pk_ix val (n := bd) (by omega) with z | z | ⟨j, h1, h2⟩
  · exact absurd (Or.inl z) ok
  · refine absurd (Or.inr (fun y => ?_)) ok
    have := Int32.lt_iff_toInt_lt.mp y
    have := Int32.le_iff_toInt_le.mp z
    omega
  · rw [h2, nI_clamp (by omega)]; exact ⟨rfl, h1⟩
def MG (hc hG : Hp) (x u w rg pl ro ln : Nat) (v : Int64) (dm : Int32) : Prop := (hT hG = hT hc ∧ hU hG = hU hc ∧ hK hG = hK hc ∧ hN hG = hN hc ∧ hR hG = hR hc ∧ hQ hG = hQ hc ∧ hL hG = hL hc) ∧ (∀ f a, ¬ a = x + 11 → ¬ (f = 389 ∧ a = x + 15 + 3 * u) → hI hG f a = hI hc f a) ∧ (∀ f, ¬ f = 327 → ¬ f = 328 → ¬ f = 329 → hI hG f (x + 11) = hI hc f (x + 11)) ∧ (hI hG 327 (x + 11) = hI hc 327 (x + 11) + 1) ∧ (hI hG 328 (x + 11) = hI hc 328 (x + 11) + nI (cn (bt dm) 32)) ∧ (hI hG 329 (x + 11) = hI hc 329 (x + 11) + (if dm = hI hc 518 w then 0 else 1)) ∧ (hI hG 389 (x + 15 + 3 * u) = hI hc 389 (x + 15 + 3 * u) + 1) ∧ (∀ a j, ¬ a = pl → ¬ a = ro → hA hG a j = hA hc a j) ∧ (∀ i, i < ln → hA hG pl i = if bt (hI hc 518 w) i = true then hA hc pl i + 1 else hA hc pl i) ∧ (∀ i, i < ln → bt dm i = true → hA hG ro i = vlM hc rg v i)
theorem mem_class {o : Nat → Nat} {hc H : Hp} {x m lo ln u s b w rg pl ro pr ti L bl wd F : Nat} {v : Int64} {dm c : Int32} (hF : 40000 ≤ F) (E : GO o hc H x m lo ln u s b w rg pl ro pr ti L bl wd v) (ed1 : f_Warp_doing F w hc = some (dm, hc)) (kk : kKnown (wOp v) (wN v)) (km : kMem (wOp v)) (esz : hI hc 69 (x + 1) = hI H 710 m) (ok : ∀ i, i < ln → bt dm i = true → ¬ badM hc H m rg v i) : ∃ hG, MG hc hG x u w rg pl ro ln v dm ∧ f_WM_go F x (some (x + 15 + 3 * u)) (some w) c hc = (if kSh (wOp v) then clv (f_Warp_useShared F w dm hG) (fun h1 => gd (hK h1 x = 1) <| rq h1 (hR h1 0 x) 2 fun a_149_2 => gd (hK h1 (x + 15 + 3 * u) = 7) <| cl (f_Unit_crowd F (x + 15 + 3 * u) (some w) dm (hI h1 67 a_149_2) c h1) fun v h2 => b_WM_go_201 F x (x + 15 + 3 * u) w c wd v h2) else cl (f_Memory_ask F (x + 3) (some w) dm c (hI hc 68 (x + 1)) hG) (fun v h2 => b_WM_go_201 F x (x + 15 + 3 * u) w c wd v h2)) := by
  have C := E.C
  have W := E.W
  have B := E.B
  have Wd := E.Wd
  have lx := E.lx
  have wl := W.bw
  have l32 := E.l32
  have hu := E.hu
  have n78 := opM78 km
  have dwx : ¬ wd = x + 11 := fun z => by have := Wd.k; rw [z, C.k_tally] at this; cases this
  have un := c_unable_m (F := F) (x := x) (dm := dm) (n := wN v) hF C E.wp E.hw Wd.k (by rw [Wd.divides]; exact bI_f n78) (by rw [Wd.usesMemory, bI_t km]; decide) (by rw [Wd.a]; exact nA_is v) (nA_lt v) Wd.n
  rw [bd_is Wd esz, mkM_0 ln (fun i hi => by
    cases z : bt dm i with
    | false => rfl
    | true => rw [Bool.true_and]; exact decide_eq_false (ok i hi z))] at un
  have nrp : ¬ rg = ro := fun z => by have e1 := W.t_rg; have e2 := W.t_ro; rw [z] at e1; omega
  have npr : ¬ pl = ro := fun z => by have e1 := W.t_pl; have e2 := W.t_ro; rw [z] at e1; omega
  have kI : ∀ f a, hI (aimH hc ro rg ln (nA v) dm (wN v)) f a = hI hc f a := fun f a => by unfold aimH; rw [qI_oA]
  have kA : ∀ a j, ¬ a = ro → hA (aimH hc ro rg ln (nA v) dm (wN v)) a j = hA hc a j := fun a j z => aim_o z
  have Wk : Wp (aimH hc ro rg ln (nA v) dm (wN v)) w rg pl ro pr ti ln := E.wp.same rfl rfl (fun _ _ _ => rfl) rfl
  have go := c_go_n (F := F) (c := c) (o := wOp v) (n := wN v) (g := hI hc 518 w) (p := hI hc 519 w) (k := aimH hc ro rg ln (nA v) dm (wN v)) hF C (C.same rfl rfl (fun _ _ _ => rfl) (fun _ => rfl)) W.k Wk hu E.hw Wd.k (by rw [Wd.known, bI_t kk]; decide) ed1 un E.hw Wd.k (by omega) (kI 518 w) (by rw [kI]; exact Wd.op) (by rw [kI, Wd.a]; exact nA_is v) (nA_lt v) (by rw [kI]; exact Wd.n) (kI 519 w) dwx
  dsimp only at go
  rw [kI 586, kI 585, kI 68, kI 590] at go
  refine ⟨goH (aimH hc ro rg ln (nA v) dm (wN v)) x (x + 15 + 3 * u) pl rg ln (nA v) (hI hc 518 w) dm (wOp v) (wN v) (hI hc 519 w), ⟨?_, fun f a z1 z2 => ?_, fun f z1 z2 z3 => ?_, ?_, ?_, ?_, ?_, fun a j z1 z2 => ?_, fun i hi => ?_, fun i hi z => ?_⟩, ?_⟩
  · have gT := goH_T (aimH hc ro rg ln (nA v) dm (wN v)) x (x + 15 + 3 * u) pl rg ln (nA v) (hI hc 518 w) dm (wOp v) (wN v) (hI hc 519 w)
    refine ⟨gT.1, gT.2, goH_K .., goH_N .., goH_R .., goH_Q .., ?_⟩
    unfold goH cnH aimH
    simp only [qL_oA, qL_sI]
  · rw [goH_I z1 z2, kI]
  · unfold goH cnH
    rw [qI_oA, qI_sI, if_neg (fun y => by have := y.2; omega), qI_sI, if_neg (fun y => z3 y.1), qI_sI, if_neg (fun y => z2 y.1), qI_sI, if_neg (fun y => z1 y.1), kI]
  · unfold goH cnH
    rw [qI_oA, qI_sI, if_neg (fun y => by cases y.1), qI_sI, if_neg (fun y => by cases y.1), qI_sI, if_neg (fun y => by cases y.1), qI_sI, if_pos ⟨rfl, rfl⟩, kI]
  · unfold goH cnH
    rw [qI_oA, qI_sI, if_neg (fun y => by cases y.1), qI_sI, if_neg (fun y => by cases y.1), qI_sI, if_pos ⟨rfl, rfl⟩, kI]
  · unfold goH cnH
    rw [qI_oA, qI_sI, if_neg (fun y => by cases y.1), qI_sI, if_pos ⟨rfl, rfl⟩, kI]
  · unfold goH cnH
    rw [qI_oA, qI_sI, if_pos ⟨rfl, rfl⟩, kI]
  · rw [goH_A z1, kA _ _ z2]
  · rw [goH_p hi, kA _ _ npr, av_np km (fun y => ?_)]
    rw [B.pla i hi]
    exact (E.awk i (by omega) y).2.2
  · rw [goH_A (fun y => npr y.symm), aim_ro hi z]
  · rw [go]
    by_cases z : kSh (wOp v)
    · rw [if_pos z, if_neg (by rw [Wd.usesShared, bI_t z]; decide)]
    · rw [if_neg z, if_pos (by rw [Wd.usesShared]; exact bI_f z), if_neg (by rw [Wd.usesMemory, bI_t km]; decide)]
theorem MG.fr {hc hG : Hp} {x u w rg pl ro ln ti bi : Nat} {v : Int64} {dm : Int32} (X : MG hc hG x u w rg pl ro ln v dm) : Fr (PX x u w rg pl ro ti bi hc) hc hG := by
  obtain ⟨⟨s1, s2, s3, s4, s5, s6, s7⟩, i1, i2, i3, i4, i5, i6, a1, _, _⟩ := X
  refine ⟨by rw [s1]; exact Nat.le_refl _, fun a ha => ⟨by rw [s3], by rw [s4], fun f nP => ⟨?_, by rw [s5]⟩, fun nP j => ⟨?_, by rw [s6], by rw [s7]⟩⟩⟩
  · exact i1 f a (fun z => nP (Or.inr (Or.inr (Or.inl z)))) (fun z => nP (Or.inr (Or.inr (Or.inr (Or.inl ⟨z.2, by omega, by omega⟩)))))
  · exact a1 a j (fun z => nP (Or.inr (Or.inl ⟨rfl, Or.inr (Or.inl z)⟩))) (fun z => nP (Or.inr (Or.inl ⟨rfl, Or.inr (Or.inr (Or.inl z))⟩)))
