/-! lines asked for: the cache, as a function -/
abbrev Cs : Type := (Nat → Int32) × (Nat → Int32) × Int32 × Int32
abbrev Cs.ln (S : Cs) : Nat → Int32 := S.1
abbrev Cs.tk (S : Cs) : Nat → Int32 := S.2.1
abbrev Cs.hi (S : Cs) : Int32 := S.2.2.1
abbrev Cs.mi (S : Cs) : Int32 := S.2.2.2
def fPl (ga L : Nat) : Nat := 4 * (L % ga) + L / ga % 4
def fSt (ga : Nat) (c : Int32) (L : Nat) (S : Cs) : Int32 := if S.tk (L % ga) ≤ c then c else S.tk (L % ga)
def fHt (ga L : Nat) (S : Cs) : Bool := decide (S.ln (fPl ga L) = nI L)
def fDn (ga : Nat) (c : Int32) (L : Nat) (S : Cs) : Int32 := fSt ga c L S + (if fHt ga L S = true then 4 else 12)
def fNx (ga : Nat) (c : Int32) (L : Nat) (S : Cs) : Cs := ⟨fun p => if p = fPl ga L then nI L else S.ln p, fun g => if g = L % ga then fSt ga c L S + (if fHt ga L S = true then 1 else 5) else S.tk g, S.hi + (if fHt ga L S = true then 1 else 0), S.mi + (if fHt ga L S = true then 0 else 1)⟩
theorem fPl_lt {ga L : Nat} (g0 : 0 < ga) (g8 : ga ≤ 8) : fPl ga L < 32 ∧ L % ga < 8 := by
  have := Nat.mod_lt L g0
  have := Nat.mod_lt (L / ga) (show 0 < 4 by decide)
  unfold fPl
  omega
/-- the first lane of a line -/
def fL (D : Nat → Bool) (Lq : Nat → Nat) (i : Nat) : Bool := D i && !(exB (fun j => D j && decide (Lq j = Lq i)) i)
def fS (ga : Nat) (c : Int32) (D : Nat → Bool) (Lq : Nat → Nat) (S : Cs) : Nat → Cs
  | 0 => S
  | n + 1 => if fL D Lq n = true then fNx ga c (Lq n) (fS ga c D Lq S n) else fS ga c D Lq S n
/-- when a line is done -/
def dnL (ga : Nat) (c : Int32) (D : Nat → Bool) (Lq : Nat → Nat) (S : Cs) (l : Nat) : Nat → Int32
  | 0 => 0
  | n + 1 => if fL D Lq n = true ∧ Lq n = l then fDn ga c l (fS ga c D Lq S n) else dnL ga c D Lq S l n
def ltF (ga : Nat) (c : Int32) (D : Nat → Bool) (Lq : Nat → Nat) (S : Cs) : Nat → Int32
  | 0 => c + 1
  | n + 1 => if fL D Lq n = true then (if fDn ga c (Lq n) (fS ga c D Lq S n) ≤ ltF ga c D Lq S n then ltF ga c D Lq S n else fDn ga c (Lq n) (fS ga c D Lq S n)) else ltF ga c D Lq S n
theorem dnL_st {ga : Nat} {c : Int32} {D : Nat → Bool} {Lq : Nat → Nat} {S : Cs} {l n : Nat} (h : exB (fun j => D j && decide (Lq j = l)) n = true) : dnL ga c D Lq S l (n + 1) = dnL ga c D Lq S l n := by
  show (if _ then _ else _) = _
  rw [if_neg]
  intro ⟨z1, z2⟩
  unfold fL at z1
  rw [z2, h] at z1
  simp at z1
theorem dnL_o {ga : Nat} {c : Int32} {D : Nat → Bool} {Lq : Nat → Nat} {S : Cs} {l n : Nat} (h : fL D Lq n = false) : dnL ga c D Lq S l (n + 1) = dnL ga c D Lq S l n := by
  show (if _ then _ else _) = _
  rw [if_neg (fun z => by rw [h] at z; cases z.1)]
/-! the reference's heap as lines are asked for -/
def glH (h : Hp) (m : Nat) (S : Cs) (dn : Nat → Int32) : Hp := sI (sI (oA h (fr (fr (fr (hA h) (m + 3) 0 32 S.ln) (m + 4) 0 8 S.tk) (m + 25) 0 32 dn)) 723 m S.hi) 724 m S.mi
theorem gl_dn {h : Hp} {m i : Nat} {S : Cs} {dn : Nat → Int32} {v : Int32} (hi : i < 32) : sA (glH h m S dn) (m + 25) i v = glH h m S (fun j => if j = i then v else dn j) := by
  unfold glH
  rw [sA_sI, sA_sI, sA_oA, up2_fr_in hi (f2 := fun j => if j = i then v else dn j) (fun k => rfl)]
theorem gl_tk {h : Hp} {m i : Nat} {S : Cs} {dn : Nat → Int32} {v : Int32} (hi : i < 8) : sA (glH h m S dn) (m + 4) i v = glH h m ⟨S.ln, fun j => if j = i then v else S.tk j, S.hi, S.mi⟩ dn := by
  unfold glH
  rw [sA_sI, sA_sI, sA_oA, up2_fr (by omega), up2_fr_in hi (f2 := fun j => if j = i then v else S.tk j) (fun k => rfl)]
theorem gl_ca {h : Hp} {m i : Nat} {S : Cs} {dn : Nat → Int32} {v : Int32} (hi : i < 32) : sA (glH h m S dn) (m + 3) i v = glH h m ⟨fun j => if j = i then v else S.ln j, S.tk, S.hi, S.mi⟩ dn := by
  unfold glH
  rw [sA_sI, sA_sI, sA_oA, up2_fr (by omega), up2_fr (by omega), up2_fr_in hi (f2 := fun j => if j = i then v else S.ln j) (fun k => rfl)]
theorem gl_hi {h : Hp} {m : Nat} {S : Cs} {dn : Nat → Int32} {v : Int32} : sI (glH h m S dn) 723 m v = glH h m ⟨S.ln, S.tk, v, S.mi⟩ dn := by
  unfold glH
  rw [sI_comm _ _ _ (by omega), sI_same]
theorem gl_mi {h : Hp} {m : Nat} {S : Cs} {dn : Nat → Int32} {v : Int32} : sI (glH h m S dn) 724 m v = glH h m ⟨S.ln, S.tk, S.hi, v⟩ dn := by
  unfold glH
  rw [sI_same]
theorem gl_rc {h : Hp} {m i : Nat} {S : Cs} {dn : Nat → Int32} (hi : i < 32) : hA (glH h m S dn) (m + 3) i = S.ln i := by
  unfold glH
  rw [qA_sI, qA_sI, qA_oA, fr_o (by omega), fr_o (by omega), fr_i (by omega) hi]
theorem gl_rt {h : Hp} {m i : Nat} {S : Cs} {dn : Nat → Int32} (hi : i < 8) : hA (glH h m S dn) (m + 4) i = S.tk i := by
  unfold glH
  rw [qA_sI, qA_sI, qA_oA, fr_o (by omega), fr_i (by omega) hi]
theorem gl_rd {h : Hp} {m i : Nat} {S : Cs} {dn : Nat → Int32} (hi : i < 32) : hA (glH h m S dn) (m + 25) i = dn i := by
  unfold glH
  rw [qA_sI, qA_sI, qA_oA, fr_i (by omega) hi]
theorem gl_ro {h : Hp} {m b j : Nat} {S : Cs} {dn : Nat → Int32} (n1 : ¬ b = (m + 3)) (n2 : ¬ b = (m + 4)) (n3 : ¬ b = (m + 25)) : hA (glH h m S dn) b j = hA h b j := by
  unfold glH
  rw [qA_sI, qA_sI, qA_oA, fr_o n3, fr_o n2, fr_o n1]
theorem gl_ri {h : Hp} {m f : Nat} {S : Cs} {dn : Nat → Int32} (n1 : ¬ f = 723) (n2 : ¬ f = 724) : hI (glH h m S dn) f m = hI h f m := by
  unfold glH
  rw [qI_sI, if_neg (fun z => n2 z.1), qI_sI, if_neg (fun z => n1 z.1), qI_oA]
theorem gl_rh {h : Hp} {m : Nat} {S : Cs} {dn : Nat → Int32} : hI (glH h m S dn) 723 m = S.hi := by
  unfold glH
  rw [qI_sI, if_neg (by omega), qI_sI, if_pos ⟨rfl, rfl⟩]
theorem gl_rm {h : Hp} {m : Nat} {S : Cs} {dn : Nat → Int32} : hI (glH h m S dn) 724 m = S.mi := by
  unfold glH
  rw [qI_sI, if_pos ⟨rfl, rfl⟩]
theorem gl_md {h : Hp} {m : Nat} {S : Cs} {dn : Nat → Int32} (M : Md h m) : Md (glH h m S dn) m := M.toA.tsI.tsI
theorem up2_self {α : Type} (f : Nat → Nat → α) (i a : Nat) : up2 f i a (f i a) = f := by
  funext j b
  unfold up2
  split
  · next z => rw [z.1, z.2]
  · rfl
theorem sI_self (h : Hp) (f a : Nat) : sI h f a (hI h f a) = h := by
  show (hT h, hU h, hK h, hN h, up2 (hI h) f a (hI h f a), hR h, hA h, hQ h, hL h) = h
  rw [up2_self]
  rfl
theorem gl_0 (h : Hp) (m : Nat) : glH h m ⟨hA h (m + 3), hA h (m + 4), hI h 723 m, hI h 724 m⟩ (hA h (m + 25)) = h := by
  unfold glH
  rw [fr_get, fr_get, fr_get, oA_self, sI_self, sI_self]
theorem ag_is {h H : Hp} {m s a ln i : Nat} {K : Nat → Nat} (eD : ∀ j, dsB H m j = dsB h m j) (eA : ∀ j, aS H m s a j = aS h m s a j) (hK : ∀ i, i < ln → dsB h m i = true → aS h m s a i = nI (K i) ∧ K i < 4096) (hi : i < ln) (di : dsB h m i = true) : exB (fun j => dsB H m j && decide (aS H m s a j = aS H m s a i)) i = exB (fun j => dsB h m j && decide (K j = K i)) i := by
  rw [← ag_eq hK hi di]
  exact exB_congr i (fun j _ => by rw [eD, eA, eA])
theorem ln_is {h H : Hp} {m s a ln i : Nat} {K : Nat → Nat} (eD : ∀ j, dsB H m j = dsB h m j) (eA : ∀ j, aS H m s a j = aS h m s a j) (hK : ∀ i, i < ln → dsB h m i = true → aS h m s a i = nI (K i) ∧ K i < 4096) (hi : i < ln) (di : dsB h m i = true) : exB (fun j => dsB H m j && decide (aL H m s a j = aL H m s a i)) i = exB (fun j => dsB h m j && decide (K j / 8 = K i / 8)) i := by
  refine exB_congr i fun j hj => ?_
  unfold aL
  rw [eD, eA, eA]
  by_cases d : dsB h m j = true
  · obtain ⟨e1, l1⟩ := hK j (by omega) d
    obtain ⟨e2, l2⟩ := hK i hi di
    rw [e1, e2, show (8 : Int32) = nI 8 from rfl, pk_div (by omega) (by decide) (by decide), pk_div (by omega) (by decide) (by decide)]
    congr 1
    by_cases z : K j / 8 = K i / 8
    · rw [decide_eq_true z, decide_eq_true (by rw [z])]
    · rw [decide_eq_false z, decide_eq_false (fun y => z ((nI_eq (by omega) (by omega)).mp y))]
  · have d0 : dsB h m j = false := by simpa using d
    rw [d0, Bool.false_and, Bool.false_and]
/-- asks for what one before it asks for -/
def agB (D : Nat → Bool) (K : Nat → Nat) (i : Nat) : Bool := D i && exB (fun j => D j && decide (K j = K i)) i
def cs0 (h : Hp) (m : Nat) : Cs := ⟨hA h (m + 3), hA h (m + 4), hI h 723 m, hI h 724 m⟩
def dnF (h : Hp) (m ga : Nat) (K : Nat → Nat) (n j : Nat) : Int32 := if j < n ∧ dsB h m j = true then dnL ga (hI h 719 m) (dsB h m) (fun i => K i / 8) (cs0 h m) (K j / 8) n else hA h (m + 25) j
def tgH2 (h : Hp) (m ga : Nat) (K : Nat → Nat) (n : Nat) : Hp := glH h m (fS ga (hI h 719 m) (dsB h m) (fun i => K i / 8) (cs0 h m) n) (dnF h m ga K n)
theorem c_Mod_timeOfGlobal {F : Nat} {h : Hp} {m s a ln ga : Nat} (M : Md h m) (hF : 40000 ≤ F) (hs : s < 128) (ha : hI h 758 m = nI a) (la : a < 16) (hl : hI h 705 m = nI ln) (l32 : ln ≤ 32) (hg : hI h 709 m = nI ga) (g0 : 0 < ga) (g8 : ga ≤ 8) (K : Nat → Nat) (hK2 : ∀ i, i < ln → dsB h m i = true → aS h m s a i = nI (K i) ∧ K i < 4096) : f_Mod_timeOfGlobal F m (nI s) h = some (ltF ga (hI h 719 m) (dsB h m) (fun i => K i / 8) (cs0 h m) ln - hI h 719 m + nI (cn (fun j => decide (53 < hI h 756 m) && agB (dsB h m) K j) ln), tgH2 h m ga K ln) := by
  have n8 : ¬ (8 : Int32) = 0 := by decide
  have n4 : ¬ (4 : Int32) = 0 := by decide
  have ng : ¬ nI ga = 0 := nI_ne0 g0 (by omega)
  generalize hc : hI h 719 m = c
  generalize hLq : (fun i => K i / 8) = Lq
  have lq : ∀ i, Lq i = K i / 8 := fun i => by rw [← hLq]
  have Mg : ∀ S dn, Md (glH h m S dn) m := fun S dn => gl_md M
  have eD : ∀ S dn j, dsB (glH h m S dn) m j = dsB h m j := fun S dn j => by unfold dsB; rw [gl_ro (by omega) (by omega) (by omega)]
  have eA : ∀ S dn j, aS (glH h m S dn) m s a j = aS h m s a j := fun S dn j => by unfold aS; rw [gl_ro (by omega) (by omega) (by omega), gl_ri (by decide) (by decide)]
  have st := iterF (fun n i => b_Mod_timeOfGlobal_12 F n m (nI s) (ltF ga c (dsB h m) Lq (cs0 h m) i) (nI (cn (fun j => decide (53 < hI h 756 m) && agB (dsB h m) K j) i)) (nI i) (glH h m (fS ga c (dsB h m) Lq (cs0 h m) i) (fun j => if j < i ∧ dsB h m j = true then dnL ga c (dsB h m) Lq (cs0 h m) (K j / 8) i else hA h (m + 25) j))) ln (fun i n hi => by
    have cI : ¬ nI ln ≤ nI i := nI_ge hi (by omega)
    have ecn : cn (fun j => decide (53 < hI h 756 m) && agB (dsB h m) K j) (i + 1) = cn (fun j => decide (53 < hI h 756 m) && agB (dsB h m) K j) i + (if (decide (53 < hI h 756 m) && agB (dsB h m) K i) = true then 1 else 0) := rfl
    generalize hR0 : nI (cn (fun j => decide (53 < hI h 756 m) && agB (dsB h m) K j) i) = rp
    have erp : ∀ p : Bool, (decide (53 < hI h 756 m) && agB (dsB h m) K i) = p → nI (cn (fun j => decide (53 < hI h 756 m) && agB (dsB h m) K j) (i + 1)) = rp + (if p = true then 1 else 0) := by
      intro p ep
      rw [ecn, ep, ← hR0]
      cases p with
      | true => exact (nI_1 _).symm
      | false => exact (nI_add _ 0).symm
    generalize hS : fS ga c (dsB h m) Lq (cs0 h m) i = S
    generalize hdn : (fun j => if j < i ∧ dsB h m j = true then dnL ga c (dsB h m) Lq (cs0 h m) (K j / 8) i else hA h (m + 25) j) = dn
    have dnj : ∀ j, dn j = if j < i ∧ dsB h m j = true then dnL ga c (dsB h m) Lq (cs0 h m) (K j / 8) i else hA h (m + 25) j := fun j => by rw [← hdn]
    rw [b_Mod_timeOfGlobal_12]
    dsimp only
    rw [gd_t (Mg _ _).k, gl_ri (by decide) (by decide), hl, if_neg cI, rq_k (Mg _ _).r_does (Mg _ _).k_does, (Mg _ _).n_does, ixn (by omega) (by decide), gl_ro (by omega) (by omega) (by omega)]
    by_cases d0 : hA h (m + 27) i = 0
    · have df : dsB h m i = false := decide_eq_false (fun z => z d0)
      have ff : fL (dsB h m) Lq i = false := by unfold fL; rw [df]; rfl
      have e1 : fS ga c (dsB h m) Lq (cs0 h m) (i + 1) = S := by
        show (if _ then _ else _) = _
        rw [ff, if_neg (by decide), hS]
      have e2 : ltF ga c (dsB h m) Lq (cs0 h m) (i + 1) = ltF ga c (dsB h m) Lq (cs0 h m) i := by
        show (if _ then _ else _) = _
        rw [ff, if_neg (by decide)]
      have e3 : (fun j => if j < i + 1 ∧ dsB h m j = true then dnL ga c (dsB h m) Lq (cs0 h m) (K j / 8) (i + 1) else hA h (m + 25) j) = dn := by
        funext j
        rw [dnj, dnL_o ff]
        by_cases ej : j = i
        · subst ej
          rw [df, if_neg (fun z => by cases z.2), if_neg (fun z => by cases z.2)]
        · simp only [show (j < i + 1) = (j < i) from propext (by omega)]
      rw [if_pos d0, nI_1, e1, e2, e3, erp false (by unfold agB; rw [df]; simp), if_neg (by decide)]
      congr 1
      exact (Int32.add_zero _).symm
    · have dt : dsB h m i = true := decide_eq_true d0
      obtain ⟨k1, k2⟩ := hK2 i hi dt
      have av : ∀ S dn, f_Mod_asked F m (nI s) (nI i) (glH h m S dn) = some (nI (K i), glH h m S dn) := fun S dn => by
        rw [c_Mod_asked (Mg S dn) hs (by omega) (by rw [gl_ri (by decide) (by decide)]; exact ha) la]
        rw [show hA (glH h m S dn) (m + 13) (16 * (32 * s + i) + a) + hI (glH h m S dn) 761 m = aS (glH h m S dn) m s a i from rfl, eA, k1]
      have ga1 : f_Mod_isAgain F m (nI s) (nI i) (glH h m S dn) = some (bI (exB (fun j => dsB h m j && decide (K j = K i)) i = true), glH h m S dn) := by
        rw [c_Mod_isAgain (Mg S dn) hF hs (by omega) (by rw [gl_ri (by decide) (by decide)]; exact ha) la]
        rw [ag_is (eD S dn) (eA S dn) hK2 hi dt]
      have gl1 : f_Mod_isLineAgain F m (nI s) (nI i) (glH h m S dn) = some (bI (exB (fun j => dsB h m j && decide (K j / 8 = K i / 8)) i = true), glH h m S dn) := by
        rw [c_Mod_isLineAgain (Mg S dn) hF hs (by omega) (by rw [gl_ri (by decide) (by decide)]; exact ha) la]
        rw [ln_is (eD S dn) (eA S dn) hK2 hi dt]
      have elq : exB (fun j => dsB h m j && decide (K j / 8 = K i / 8)) i = exB (fun j => dsB h m j && decide (Lq j = Lq i)) i := by
        refine exB_congr i fun j _ => ?_
        rw [lq, lq]
      have ediv : nI (K i) / 8 = nI (K i / 8) := pk_div (by omega) (by decide) (by decide)
      have key : ∀ s1 : Int32, b_Mod_timeOfGlobal_59 F (b_Mod_timeOfGlobal_12 F n) m (nI s) (ltF ga c (dsB h m) Lq (cs0 h m) i) (nI i) rp s1 (glH h m S dn) = b_Mod_timeOfGlobal_12 F n m (nI s) (ltF ga c (dsB h m) Lq (cs0 h m) (i + 1)) (rp + s1) (nI (i + 1)) (glH h m (fS ga c (dsB h m) Lq (cs0 h m) (i + 1)) (fun j => if j < i + 1 ∧ dsB h m j = true then dnL ga c (dsB h m) Lq (cs0 h m) (K j / 8) (i + 1) else hA h (m + 25) j)) := by
        intro s1
        rw [b_Mod_timeOfGlobal_59, gd_t (Mg _ _).k, av, cl_some, gd_t n8, gd_t (Mg _ _).k, gl1, cl_some, bI_ite, ediv]
        by_cases lg : exB (fun j => dsB h m j && decide (K j / 8 = K i / 8)) i = true
        · have ff : fL (dsB h m) Lq i = false := by unfold fL; rw [← elq, lg]; simp
          have e1 : fS ga c (dsB h m) Lq (cs0 h m) (i + 1) = S := by
            show (if _ then _ else _) = _
            rw [ff, if_neg (by decide), hS]
          have e2 : ltF ga c (dsB h m) Lq (cs0 h m) (i + 1) = ltF ga c (dsB h m) Lq (cs0 h m) i := by
            show (if _ then _ else _) = _
            rw [ff, if_neg (by decide)]
          rw [if_pos lg, e1, e2]
          have si := iterF (fun n2 j => b_Mod_timeOfGlobal_86 F (b_Mod_timeOfGlobal_12 F n) n2 m (nI s) (ltF ga c (dsB h m) Lq (cs0 h m) i) (rp + s1) (nI i) (nI (K i / 8)) (nI j) (glH h m S (fun l => if l = i then (if exB (fun j => dsB h m j && decide (K j / 8 = K i / 8)) j = true then dnL ga c (dsB h m) Lq (cs0 h m) (K i / 8) i else hA h (m + 25) i) else dn l))) i (fun j n2 hj => by
            have cJ : ¬ nI i ≤ nI j := nI_ge hj (by omega)
            have e141 : ∀ S d2 v, b_Mod_timeOfGlobal_141 F (b_Mod_timeOfGlobal_12 F n) (b_Mod_timeOfGlobal_86 F (b_Mod_timeOfGlobal_12 F n) n2) m (nI s) (ltF ga c (dsB h m) Lq (cs0 h m) i) (rp + s1) (nI i) (nI (K i / 8)) (nI j) (m + 25) (nI i) v (glH h m S d2) = b_Mod_timeOfGlobal_86 F (b_Mod_timeOfGlobal_12 F n) n2 m (nI s) (ltF ga c (dsB h m) Lq (cs0 h m) i) (rp + s1) (nI i) (nI (K i / 8)) (nI (j + 1)) (glH h m S (fun l => if l = i then v else d2 l)) := fun S d2 v => by
              rw [b_Mod_timeOfGlobal_141, gd_t (Mg _ _).k_doneAt, (Mg _ _).n_doneAt, ixn (by omega) (by decide), pw_e, gl_dn (by omega), nI_1]
            have e134 : ∀ S d2, b_Mod_timeOfGlobal_134 F (b_Mod_timeOfGlobal_12 F n) (b_Mod_timeOfGlobal_86 F (b_Mod_timeOfGlobal_12 F n) n2) m (nI s) (ltF ga c (dsB h m) Lq (cs0 h m) i) (rp + s1) (nI i) (nI (K i / 8)) (nI j) (m + 25) (nI i) (glH h m S d2) = b_Mod_timeOfGlobal_86 F (b_Mod_timeOfGlobal_12 F n) n2 m (nI s) (ltF ga c (dsB h m) Lq (cs0 h m) i) (rp + s1) (nI i) (nI (K i / 8)) (nI (j + 1)) (glH h m S d2) := fun S d2 => by
              rw [b_Mod_timeOfGlobal_134, gd_t (Mg _ _).k, rq_k (Mg _ _).r_doneAt (Mg _ _).k_doneAt, (Mg _ _).n_doneAt, ixn (by omega) (by decide), gl_rd (by omega), e141]
              congr 1
              congr 1
              funext l
              by_cases z : l = i
              · rw [if_pos z, z]
              · rw [if_neg z]
            rw [b_Mod_timeOfGlobal_86]
            dsimp only
            rw [if_neg cJ, gd_t (Mg _ _).k, rq_k (Mg _ _).r_doneAt (Mg _ _).k_doneAt, rq_k (Mg _ _).r_does (Mg _ _).k_does, (Mg _ _).n_does, ixn (by omega) (by decide), gl_ro (by omega) (by omega) (by omega)]
            have exs : exB (fun j => dsB h m j && decide (K j / 8 = K i / 8)) (j + 1) = (exB (fun j => dsB h m j && decide (K j / 8 = K i / 8)) j || (dsB h m j && decide (K j / 8 = K i / 8))) := rfl
            by_cases dj : hA h (m + 27) j = 0
            · have df : dsB h m j = false := decide_eq_false (fun z => z dj)
              rw [if_pos dj, e134, exs, df, Bool.false_and, Bool.or_false]
            · have dt2 : dsB h m j = true := decide_eq_true dj
              obtain ⟨k3, k4⟩ := hK2 j (by omega) dt2
              have av2 : ∀ S dn, f_Mod_asked F m (nI s) (nI j) (glH h m S dn) = some (nI (K j), glH h m S dn) := fun S dn => by
                rw [c_Mod_asked (Mg S dn) hs (by omega) (by rw [gl_ri (by decide) (by decide)]; exact ha) la]
                rw [show hA (glH h m S dn) (m + 13) (16 * (32 * s + j) + a) + hI (glH h m S dn) 761 m = aS (glH h m S dn) m s a j from rfl, eA, k3]
              have ediv2 : nI (K j) / 8 = nI (K j / 8) := pk_div (by omega) (by decide) (by decide)
              rw [if_neg dj, av2, cl_some, gd_t n8, ediv2]
              by_cases el : K j / 8 = K i / 8
              · rw [if_pos (by rw [el]), gd_t (Mg _ _).k, rq_k (Mg _ _).r_doneAt (Mg _ _).k_doneAt, (Mg _ _).n_doneAt, ixn (by omega) (by decide), gl_rd (by omega), e141, if_neg (by omega), dnj, if_pos ⟨hj, dt2⟩, exs, dt2, decide_eq_true el, el]
                congr 1
                congr 1
                funext l
                by_cases z : l = i
                · rw [if_pos z, if_pos z, if_pos (by simp)]
                · rw [if_neg z, if_neg z, if_neg z]
              · rw [if_neg (fun y => el ((nI_eq (by omega) (by omega)).mp y)), e134, exs, decide_eq_false el, Bool.and_false, Bool.or_false]) (F := F) (by omega)
          have cI2 : nI i ≤ nI i := nI_le (Nat.le_refl _) (by omega)
          have z0 : (fun l => if l = i then (if exB (fun j => dsB h m j && decide (K j / 8 = K i / 8)) 0 = true then dnL ga c (dsB h m) Lq (cs0 h m) (K i / 8) i else hA h (m + 25) i) else dn l) = dn := by
            funext l
            by_cases z : l = i
            · rw [if_pos z, if_neg (by unfold exB; decide), z, dnj, if_neg (fun q => by omega)]
            · rw [if_neg z]
          rw [nI_0, z0] at si
          rw [si, b_Mod_timeOfGlobal_86]
          dsimp only
          rw [if_pos cI2, nI_1]
          congr 1
          congr 1
          funext j
          have lg2 : ∀ l, l = Lq i → exB (fun j => dsB h m j && decide (Lq j = l)) i = true := fun l el => by rw [el, ← elq]; exact lg
          by_cases z : j = i
          · rw [if_pos z, if_pos lg, z, if_pos ⟨by omega, dt⟩, ← lq, dnL_st (lg2 _ rfl)]
          · rw [if_neg z, dnj]
            have : (j < i + 1) = (j < i) := propext (by omega)
            rw [dnL_o ff]
            simp only [this]
        · have ff : fL (dsB h m) Lq i = true := by
            unfold fL
            rw [dt, ← elq]
            simpa using lg
          have e1 : fS ga c (dsB h m) Lq (cs0 h m) (i + 1) = fNx ga c (Lq i) S := by
            show (if _ then _ else _) = _
            rw [if_pos ff, hS]
          have e2 : ltF ga c (dsB h m) Lq (cs0 h m) (i + 1) = if fDn ga c (Lq i) S ≤ ltF ga c (dsB h m) Lq (cs0 h m) i then ltF ga c (dsB h m) Lq (cs0 h m) i else fDn ga c (Lq i) S := by
            show (if _ then _ else _) = _
            rw [if_pos ff, hS]
          have e3 : (fun j => if j < i + 1 ∧ dsB h m j = true then dnL ga c (dsB h m) Lq (cs0 h m) (K j / 8) (i + 1) else hA h (m + 25) j) = (fun j => if j = i then fDn ga c (Lq i) S else dn j) := by
            funext j
            by_cases z : j = i
            · subst z
              rw [if_pos ⟨by omega, dt⟩, if_pos rfl, ← lq]
              show (if _ then _ else _) = _
              rw [if_pos ⟨ff, rfl⟩, hS]
            · rw [if_neg z, dnj]
              by_cases q : j < i ∧ dsB h m j = true
              · rw [if_pos q, if_pos ⟨by omega, q.2⟩]
                show (if _ then _ else _) = _
                rw [if_neg]
                intro ⟨_, z2⟩
                apply lg
                rw [elq]
                refine (exB_iff _ _).mpr ⟨j, q.1, ?_⟩
                rw [q.2, Bool.true_and]
                exact decide_eq_true (by rw [z2, lq])
              · rw [if_neg q, if_neg (fun y => q ⟨by omega, y.2⟩)]
          obtain ⟨p1, p2⟩ := fPl_lt (L := K i / 8) g0 g8
          have er : nI (K i / 8) - nI (K i / 8) / nI ga * nI ga = nI (K i / 8 % ga) := pk_rem (by omega) g0 (by omega)
          have ed2 : nI (K i / 8) / nI ga = nI (K i / 8 / ga) := pk_div (by omega) g0 (by omega)
          have l5 : K i / 8 / ga < 4096 := by
            have := Nat.div_le_self (K i / 8) ga
            omega
          have er2 : nI (K i / 8 / ga) - nI (K i / 8 / ga) / 4 * 4 = nI (K i / 8 / ga % 4) := pk_rem (by omega) (by decide) (by decide)
          have k311 : ∀ S2 d2 v w, b_Mod_timeOfGlobal_311 F (b_Mod_timeOfGlobal_12 F n) m (nI s) (ltF ga c (dsB h m) Lq (cs0 h m) i) (rp + s1) (nI i) (m + 25) (nI i) v w (glH h m S2 d2) = b_Mod_timeOfGlobal_12 F n m (nI s) (if v + w ≤ ltF ga c (dsB h m) Lq (cs0 h m) i then ltF ga c (dsB h m) Lq (cs0 h m) i else v + w) (rp + s1) (nI (i + 1)) (glH h m S2 (fun j => if j = i then v + w else d2 j)) := fun S2 d2 v w => by
            rw [b_Mod_timeOfGlobal_311, gd_t (Mg _ _).k_doneAt, (Mg _ _).n_doneAt, ixn (by omega) (by decide), pw_e, gl_dn (by omega), gd_t (Mg _ _).k, rq_k (Mg _ _).r_doneAt (Mg _ _).k_doneAt, (Mg _ _).n_doneAt, ixn (by omega) (by decide), ixn (by omega) (by decide), gl_rd (by omega), if_pos rfl, nI_1]
            by_cases q : v + w ≤ ltF ga c (dsB h m) Lq (cs0 h m) i
            · rw [if_pos q, if_pos q]
            · rw [if_neg q, if_neg q]
          have k290 : ∀ S2 d2 v w (hit : Bool), b_Mod_timeOfGlobal_290 F (b_Mod_timeOfGlobal_12 F n) m (nI s) (ltF ga c (dsB h m) Lq (cs0 h m) i) (rp + s1) (nI i) v (bI (hit = true)) (m + 4) (nI (K i / 8 % ga)) v w (glH h m S2 d2) = b_Mod_timeOfGlobal_12 F n m (nI s) (if v + (if hit = true then 4 else 12) ≤ ltF ga c (dsB h m) Lq (cs0 h m) i then ltF ga c (dsB h m) Lq (cs0 h m) i else v + (if hit = true then 4 else 12)) (rp + s1) (nI (i + 1)) (glH h m ⟨S2.ln, fun j => if j = K i / 8 % ga then v + w else S2.tk j, S2.hi, S2.mi⟩ (fun j => if j = i then v + (if hit = true then 4 else 12) else d2 j)) := fun S2 d2 v w hit => by
            rw [b_Mod_timeOfGlobal_290, gd_t (Mg _ _).k_gateTick, (Mg _ _).n_gateTick, ixn p2 (by decide), pw_e, gl_tk p2, gd_t (Mg _ _).k, rq_k (Mg _ _).r_doneAt (Mg _ _).k_doneAt]
            cases hit with
            | false => rw [if_pos (by rfl), k311]; rfl
            | true => rw [if_neg (by decide), k311]; rfl
          have k249 : ∀ S2 d2 v (hit : Bool) w, b_Mod_timeOfGlobal_249 F (b_Mod_timeOfGlobal_12 F n) m (nI s) (ltF ga c (dsB h m) Lq (cs0 h m) i) (rp + s1) (nI i) (nI (K i / 8 % ga)) v (bI (hit = true)) m (hI (glH h m S2 d2) 723 m) w (glH h m S2 d2) = b_Mod_timeOfGlobal_12 F n m (nI s) (if v + (if hit = true then 4 else 12) ≤ ltF ga c (dsB h m) Lq (cs0 h m) i then ltF ga c (dsB h m) Lq (cs0 h m) i else v + (if hit = true then 4 else 12)) (rp + s1) (nI (i + 1)) (glH h m ⟨S2.ln, fun j => if j = K i / 8 % ga then v + (if hit = true then 1 else 5) else S2.tk j, S2.hi + w, S2.mi + (if hit = true then 0 else 1)⟩ (fun j => if j = i then v + (if hit = true then 4 else 12) else d2 j)) := fun S2 d2 v hit w => by
            rw [b_Mod_timeOfGlobal_249, gl_rh, gd_t (Mg _ _).k, pw_e, gl_hi, gd_t (Mg _ _).k, gl_rm]
            cases hit with
            | false => rw [if_pos (by rfl), b_Mod_timeOfGlobal_268, gd_t (Mg _ _).k, pw_e, gl_mi, gd_t (Mg _ _).k, rq_k (Mg _ _).r_gateTick (Mg _ _).k_gateTick, if_pos (by rfl), k290]; rfl
            | true => rw [if_neg (by decide), b_Mod_timeOfGlobal_268, gd_t (Mg _ _).k, pw_e, gl_mi, gd_t (Mg _ _).k, rq_k (Mg _ _).r_gateTick (Mg _ _).k_gateTick, if_neg (by decide), k290]; rfl
          have k204 : ∀ v, b_Mod_timeOfGlobal_204 F (b_Mod_timeOfGlobal_12 F n) m (nI s) (ltF ga c (dsB h m) Lq (cs0 h m) i) (rp + s1) (nI i) (nI (K i / 8)) (nI (K i / 8 % ga)) (nI (fPl ga (K i / 8))) v (glH h m S dn) = b_Mod_timeOfGlobal_12 F n m (nI s) (if v + (if fHt ga (K i / 8) S = true then 4 else 12) ≤ ltF ga c (dsB h m) Lq (cs0 h m) i then ltF ga c (dsB h m) Lq (cs0 h m) i else v + (if fHt ga (K i / 8) S = true then 4 else 12)) (rp + s1) (nI (i + 1)) (glH h m ⟨fun j => if j = fPl ga (K i / 8) then nI (K i / 8) else S.ln j, fun j => if j = K i / 8 % ga then v + (if fHt ga (K i / 8) S = true then 1 else 5) else S.tk j, S.hi + (if fHt ga (K i / 8) S = true then 1 else 0), S.mi + (if fHt ga (K i / 8) S = true then 0 else 1)⟩ (fun j => if j = i then v + (if fHt ga (K i / 8) S = true then 4 else 12) else dn j)) := fun v => by
            rw [b_Mod_timeOfGlobal_204, gd_t (Mg _ _).k, rq_k (Mg _ _).r_cache (Mg _ _).k_cache, (Mg _ _).n_cache, ixn p1 (by decide), gl_rc p1]
            by_cases q : S.ln (fPl ga (K i / 8)) = nI (K i / 8)
            · have qh : fHt ga (K i / 8) S = true := decide_eq_true q
              rw [if_pos q, b_Mod_timeOfGlobal_223, gd_t (Mg _ _).k, rq_k (Mg _ _).r_cache (Mg _ _).k_cache, (Mg _ _).n_cache, ixn p1 (by decide), pw_e, gl_ca p1, if_neg (by decide), show (1 : Int32) = bI (true = true) from rfl, k249, qh]
              rfl
            · have qh : fHt ga (K i / 8) S = false := decide_eq_false q
              rw [if_neg q, b_Mod_timeOfGlobal_223, gd_t (Mg _ _).k, rq_k (Mg _ _).r_cache (Mg _ _).k_cache, (Mg _ _).n_cache, ixn p1 (by decide), pw_e, gl_ca p1, if_pos rfl, show b_Mod_timeOfGlobal_249 F (b_Mod_timeOfGlobal_12 F n) m (nI s) (ltF ga c (dsB h m) Lq (cs0 h m) i) (rp + s1) (nI i) (nI (K i / 8 % ga)) v 0 = b_Mod_timeOfGlobal_249 F (b_Mod_timeOfGlobal_12 F n) m (nI s) (ltF ga c (dsB h m) Lq (cs0 h m) i) (rp + s1) (nI i) (nI (K i / 8 % ga)) v (bI (false = true)) from rfl, k249, qh]
              rfl
          have efp : (4 : Int32) * nI (K i / 8 % ga) + nI (K i / 8 / ga % 4) = nI (fPl ga (K i / 8)) := by
            rw [n_4, nI_add]
            rfl
          rw [if_neg lg, gd_t (Mg _ _).k, gl_ri (by decide) (by decide), hg, gd_t ng, gd_t ng, gd_t n4, er, ed2, er2, efp, rq_k (Mg _ _).r_gateTick (Mg _ _).k_gateTick, (Mg _ _).n_gateTick, ixn p2 (by decide), ixn p2 (by decide), gl_rt p2, gl_ri (by decide) (by decide), hc, k204, k204, e1, e2, e3]
          have efs : fSt ga c (Lq i) S = if S.tk (K i / 8 % ga) ≤ c then c else S.tk (K i / 8 % ga) := by rw [lq]; rfl
          rw [← lq] at efs ⊢
          unfold fNx fDn
          by_cases q : S.tk (Lq i % ga) ≤ c
          · rw [if_pos q] at efs
            rw [if_pos q, efs]
          · rw [if_neg q] at efs
            rw [if_neg q, efs]
      rw [if_neg d0, gl_ri (by decide) (by decide)]
      by_cases c53 : hI h 756 m ≤ 53
      · have n53 : ¬ 53 < hI h 756 m := Int32.not_lt.mpr c53
        rw [if_pos c53, b_Mod_timeOfGlobal_58, key, erp false (by rw [decide_eq_false n53, Bool.false_and]), if_neg (by decide)]
      · have y53 : 53 < hI h 756 m := Int32.not_le.mp c53
        rw [if_neg c53, ga1, cl_some, bI_ite]
        by_cases ag : exB (fun j => dsB h m j && decide (K j = K i)) i = true
        · rw [if_pos ag, key, erp true (by unfold agB; rw [decide_eq_true y53, dt, ag]; rfl), if_pos rfl]
        · rw [if_neg ag, b_Mod_timeOfGlobal_58, key, erp false (by unfold agB; rw [dt]; simpa using fun _ => by simpa using ag), if_neg (by decide)]) (F := F) (by omega)
  have cL : nI ln ≤ nI ln := nI_le (Nat.le_refl _) (by omega)
  have z0 : glH h m (fS ga c (dsB h m) Lq (cs0 h m) 0) (fun j => if j < 0 ∧ dsB h m j = true then dnL ga c (dsB h m) Lq (cs0 h m) (K j / 8) 0 else hA h (m + 25) j) = h := by
    have : (fun j => if j < 0 ∧ dsB h m j = true then dnL ga c (dsB h m) Lq (cs0 h m) (K j / 8) 0 else hA h (m + 25) j) = hA h (m + 25) := funext fun j => if_neg (by omega)
    rw [this]
    exact gl_0 h m
  rw [z0, nI_0, show ltF ga c (dsB h m) Lq (cs0 h m) 0 = c + 1 from rfl, show nI (cn (fun j => decide (53 < hI h 756 m) && agB (dsB h m) K j) 0) = 0 from rfl] at st
  rw [f_Mod_timeOfGlobal, gd_t M.k, hc, st, b_Mod_timeOfGlobal_12]
  dsimp only
  rw [gd_t (Mg _ _).k, gl_ri (by decide) (by decide), hl, if_pos cL, gl_ri (by decide) (by decide), hc]
  unfold tgH2 dnF
  rw [hc, hLq]
