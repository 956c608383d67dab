/-! the reference: ticks, and blocks that meet -/
abbrev tk1 (h : Hp) (m s d : Nat) (c : Int32) : Hp := if kWD (hI h 756 m) then sA h (m + 12) (20 * s + d) c else h
abbrev tk2 (h : Hp) (m s d : Nat) (c : Int32) : Hp := if kWP (hI h 756 m) then sA h (m + 12) (20 * s + (16 + pn (nI d))) c else h
abbrev tk3 (h : Hp) (m s : Nat) (c : Int32) : Hp := if kMem (hI h 756 m) then sA h (m + 11) s c else h
/-- the ticks that a word leaves -/
def tkG (h : Hp) (m s d : Nat) (c : Int32) : Nat → Nat → Int32 := fun a j => if a = (m + 12) ∧ ((kWD (hI h 756 m) ∧ j = 20 * s + d) ∨ (kWP (hI h 756 m) ∧ j = 20 * s + (16 + pn (nI d)))) then c else if a = (m + 11) ∧ kMem (hI h 756 m) ∧ j = s then c else hA h a j
def tkH (h : Hp) (m s d : Nat) (c : Int32) : Hp := oA h (tkG h m s d c)
theorem upc {P : Prop} [Decidable P] (g : Nat → Nat → Int32) (a0 j0 : Nat) (c : Int32) (a j : Nat) : (if P then up2 g a0 j0 c else g) a j = if P ∧ a = a0 ∧ j = j0 then c else g a j := by
  by_cases h : P
  · rw [if_pos h]
    unfold up2
    by_cases z : a = a0 ∧ j = j0
    · rw [if_pos z, if_pos ⟨h, z⟩]
    · rw [if_neg z, if_neg (fun y => z y.2)]
  · rw [if_neg h, if_neg (fun y => h y.1)]
theorem l_goTail {F : Nat} {h : Hp} {m s d ln n : Nat} {v : Int32} (M : Md h m) (hs : s < 128) (hd : hI h 757 m = nI d) (ld : d < 16) (hl : hI h 705 m = nI ln) (l32 : ln ≤ 32) : b_Mod_go_318 F (n + 1) m (nI s) v (nI ln) h = if 2 ≤ hI h 756 m then some (tkH h m s d (hI h 719 m + v)) else clv (f_Mod_settle F m (hA h (m + 9) s) (tkH h m s d (hI h 719 m + v))) (fun k => some k) := by
  have cL : nI ln ≤ nI ln := nI_le (Nat.le_refl _) (by omega)
  have p1 := pn_lt (nI d)
  have Mx : ∀ g, Md (oA h g) m := fun g => M.toA
  have ix : ∀ g f, hI (oA h g) f m = hI h f m := fun g f => by rw [qI_oA]
  have e476 : ∀ g, g (m + 9) s = hA h (m + 9) s → b_Mod_go_476 F m (nI s) (oA h g) = if 2 ≤ hI h 756 m then some (oA h g) else clv (f_Mod_settle F m (hA h (m + 9) s) (oA h g)) (fun k => some k) := by
    intro g eg
    rw [b_Mod_go_476, gd_t (Mx g).k, ix, rq_k (Mx g).r_slotBlock (Mx g).k_slotBlock, (Mx g).n_slotBlock, ixn hs (by decide), qA_oA, eg]
  have e456 : ∀ g, g (m + 9) s = hA h (m + 9) s → b_Mod_go_456 F m (nI s) v (oA h g) = b_Mod_go_476 F m (nI s) (oA h (if kMem (hI h 756 m) then up2 g (m + 11) s (hI h 719 m + v) else g)) := by
    intro g eg
    rw [b_Mod_go_456, gd_t (Mx g).k, c_Mod_isMemory (Mx g).k, cl_some, bI_ite, ix]
    by_cases q : kMem (hI h 756 m)
    · rw [if_pos q, if_pos q, gd_t (Mx g).k, rq_k (Mx g).r_memoryTick (Mx g).k_memoryTick, (Mx g).n_memoryTick, ixn hs (by decide), pw_e, ix, sA_oA]
    · rw [if_neg q, if_neg q]
  have e423 : ∀ g, g (m + 9) s = hA h (m + 9) s → b_Mod_go_423 F m (nI s) v (oA h g) = b_Mod_go_456 F m (nI s) v (oA h (if kWP (hI h 756 m) then up2 g (m + 12) (20 * s + (16 + pn (nI d))) (hI h 719 m + v) else g)) := by
    intro g eg
    rw [b_Mod_go_423, gd_t (Mx g).k, c_Mod_writesPredicate (Mx g).k, cl_some, bI_ite, ix]
    by_cases q : kWP (hI h 756 m)
    · rw [if_pos q, if_pos q, gd_t (Mx g).k, rq_k (Mx g).r_ticks (Mx g).k_ticks, (Mx g).n_ticks, ix, hd, pn_is, n_20, show (16 : Int32) = nI 16 from rfl, nI_add, nI_add, show 20 * s + 16 + pn (nI d) = 20 * s + (16 + pn (nI d)) by omega, ixn (by omega) (by decide), pw_e, ix, sA_oA]
    · rw [if_neg q, if_neg q]
  have e318 : b_Mod_go_318 F (n + 1) m (nI s) v (nI ln) h = b_Mod_go_423 F m (nI s) v (oA h (if kWD (hI h 756 m) then up2 (hA h) (m + 12) (20 * s + d) (hI h 719 m + v) else hA h)) := by
    rw [b_Mod_go_318]
    dsimp only
    rw [gd_t M.k, hl, if_pos cL, c_Mod_writesD M.k, cl_some, bI_ite]
    by_cases q : kWD (hI h 756 m)
    · rw [if_pos q, if_pos q, gd_t M.k, rq_k M.r_ticks M.k_ticks, M.n_ticks, hd, n_20, nI_add, ixn (by omega) (by decide), pw_e, sA_is]
    · rw [if_neg q, if_neg q, oA_self]
  have g1 : (if kWD (hI h 756 m) then up2 (hA h) (m + 12) (20 * s + d) (hI h 719 m + v) else hA h) (m + 9) s = hA h (m + 9) s := by
    split
    · unfold up2; rw [if_neg (by omega)]
    · rfl
  have g2 : ∀ g : Nat → Nat → Int32, g (m + 9) s = hA h (m + 9) s → (if kWP (hI h 756 m) then up2 g (m + 12) (20 * s + (16 + pn (nI d))) (hI h 719 m + v) else g) (m + 9) s = hA h (m + 9) s := by
    intro g eg
    split
    · unfold up2; rw [if_neg (by omega), eg]
    · exact eg
  have g3 : ∀ g : Nat → Nat → Int32, g (m + 9) s = hA h (m + 9) s → (if kMem (hI h 756 m) then up2 g (m + 11) s (hI h 719 m + v) else g) (m + 9) s = hA h (m + 9) s := by
    intro g eg
    split
    · unfold up2; rw [if_neg (by omega), eg]
    · exact eg
  rw [e318, e423 _ g1, e456 _ (g2 _ g1), e476 _ (g3 _ (g2 _ g1))]
  have fin : oA h (if kMem (hI h 756 m) then up2 (if kWP (hI h 756 m) then up2 (if kWD (hI h 756 m) then up2 (hA h) (m + 12) (20 * s + d) (hI h 719 m + v) else hA h) (m + 12) (20 * s + (16 + pn (nI d))) (hI h 719 m + v) else (if kWD (hI h 756 m) then up2 (hA h) (m + 12) (20 * s + d) (hI h 719 m + v) else hA h)) (m + 11) s (hI h 719 m + v) else (if kWP (hI h 756 m) then up2 (if kWD (hI h 756 m) then up2 (hA h) (m + 12) (20 * s + d) (hI h 719 m + v) else hA h) (m + 12) (20 * s + (16 + pn (nI d))) (hI h 719 m + v) else (if kWD (hI h 756 m) then up2 (hA h) (m + 12) (20 * s + d) (hI h 719 m + v) else hA h))) = tkH h m s d (hI h 719 m + v) := by
    unfold tkH
    refine oA_eq fun a j => ?_
    unfold tkG
    generalize hI h 719 m + v = c
    rw [upc, upc, upc]
    by_cases h1 : kMem (hI h 756 m) ∧ a = (m + 11) ∧ j = s
    · rw [if_pos h1, if_neg (fun z => by have := z.1; have := h1.2.1; omega), if_pos ⟨h1.2.1, h1.1, h1.2.2⟩]
    · rw [if_neg h1]
      by_cases h2 : kWP (hI h 756 m) ∧ a = (m + 12) ∧ j = 20 * s + (16 + pn (nI d))
      · rw [if_pos h2, if_pos ⟨h2.2.1, Or.inr ⟨h2.1, h2.2.2⟩⟩]
      · rw [if_neg h2]
        by_cases h3 : kWD (hI h 756 m) ∧ a = (m + 12) ∧ j = 20 * s + d
        · rw [if_pos h3, if_pos ⟨h3.2.1, Or.inl ⟨h3.1, h3.2.2⟩⟩]
        · rw [if_neg h3, if_neg (fun z => by
            rcases z.2 with y | y
            · exact h3 ⟨y.1, z.1, y.2⟩
            · exact h2 ⟨y.1, z.1, y.2⟩), if_neg (fun z => h1 ⟨z.2.1, z.1, z.2.2⟩)]
  rw [fin]
theorem ite_iff {α : Type} {P Q : Prop} [Decidable P] [Decidable Q] {a b : α} (h : P ↔ Q) : (if P then a else b) = if Q then a else b := by
  by_cases z : P
  · rw [if_pos z, if_pos (h.mp z)]
  · rw [if_neg z, if_neg (fun y => z (h.mpr y))]
/-! all -/
def al (P : Nat → Bool) : Nat → Bool
  | 0 => true
  | n + 1 => al P n && P n
theorem al_iff (P : Nat → Bool) : ∀ n, al P n = true ↔ ∀ i, i < n → P i = true := by
  intro n
  induction n with
  | zero => simp [al]
  | succ n ih =>
    unfold al
    rw [Bool.and_eq_true, ih]
    constructor
    · intro ⟨h1, h2⟩ i hi
      by_cases e : i = n
      · subst e; exact h2
      · exact h1 i (by omega)
    · intro h1
      exact ⟨fun i hi => h1 i (by omega), h1 n (by omega)⟩
abbrev inB (h : Hp) (m : Nat) (b : Int32) (s : Nat) : Bool := decide (hA h (m + 9) s = b)
abbrev sW (h : Hp) (m s i : Nat) : Bool := decide (¬ hA h (m + 16) (32 * s + i) = 0) || decide (¬ hA h (m + 17) (32 * s + i) = 0) || !decide (rLn h m s i)
abbrev sE (h : Hp) (m s i : Nat) : Bool := decide (¬ hA h (m + 16) (32 * s + i) = 0) || !decide (rLn h m s i)
abbrev bW (h : Hp) (m ln : Nat) (b : Int32) (s : Nat) : Bool := !(inB h m b s) || al (sW h m s) ln
abbrev bE (h : Hp) (m ln : Nat) (b : Int32) (s : Nat) : Bool := !(inB h m b s) || al (sE h m s) ln
theorem bI_b (p : Bool) : (bI (p = true) = 0) ↔ p = false := by cases p <;> decide
theorem st18 {F : Nat} {h : Hp} {m s ln : Nat} (M : Md h m) (hF : 40000 ≤ F) (hs : s < 128) (hl : hI h 705 m = nI ln) (l32 : ln ≤ 32) (b : Int32) (p2 p3 : Bool) (k7 : Nat → Int32 → Int32 → Int32 → Int32 → Hp → Option Hp) : b_Mod_settle_18 F k7 F m b (bI (p2 = true)) (bI (p3 = true)) (nI s) 0 h = k7 m b (bI ((p2 && bW h m ln b s) = true)) (bI ((p3 && bE h m ln b s) = true)) (nI (s + 1)) h := by
  by_cases ib : hA h (m + 9) s = b
  · have it : inB h m b s = true := decide_eq_true ib
    have st := iterF (fun n i => b_Mod_settle_18 F k7 n m b (bI ((p2 && al (sW h m s) i) = true)) (bI ((p3 && al (sE h m s) i) = true)) (nI s) (nI i) h) ln (fun i n hi => by
      have c : ¬ nI ln ≤ nI i := nI_ge hi (by omega)
      rw [b_Mod_settle_18]
      dsimp only
      rw [gd_t M.k, rq_k M.r_slotBlock M.k_slotBlock, M.n_slotBlock, ixn hs (by decide), if_pos ib, hl, if_neg c, c_Mod_thread, cl_some]
      have e113 : ∀ x2, b_Mod_settle_113 F k7 (b_Mod_settle_18 F k7 n) m b x2 (nI s) (nI i) h = b_Mod_settle_18 F k7 n m b x2 1 (nI s) (nI (i + 1)) h := fun x2 => by rw [b_Mod_settle_113, nI_1]
      have e87 : ∀ z2 : Bool, b_Mod_settle_87 F k7 (b_Mod_settle_18 F k7 n) m b (bI ((p3 && al (sE h m s) i) = true)) (nI s) (nI i) (nI (32 * s + i)) (bI (z2 = true)) h = b_Mod_settle_18 F k7 n m b (bI (z2 = true)) (bI ((p3 && al (sE h m s) (i + 1)) = true)) (nI s) (nI (i + 1)) h := by
        intro z2
        have ea : al (sE h m s) (i + 1) = (al (sE h m s) i && sE h m s i) := rfl
        rw [b_Mod_settle_87, ea, ← Bool.and_assoc]
        cases q : (p3 && al (sE h m s) i) with
        | false => rw [if_pos (by rfl), nI_1]; rfl
        | true =>
          rw [if_neg (by decide), gd_t M.k, rq_k M.r_isEnded M.k_isEnded, M.n_isEnded, ixn (by omega) (by decide), Bool.true_and]
          by_cases e0 : hA h (m + 16) (32 * s + i) = 0
          · rw [if_pos e0, c_Mod_isLane M hs, cl_some, bI_ite]
            by_cases r : rLn h m s i
            · rw [if_pos r, nI_1, show sE h m s i = false by unfold sE; rw [decide_eq_false (fun z => z e0), decide_eq_true r]; rfl]
              rfl
            · rw [if_neg r, e113, show sE h m s i = true by unfold sE; rw [decide_eq_false r]; simp]
              rfl
          · rw [if_neg e0, e113, show sE h m s i = true by unfold sE; rw [decide_eq_true e0]; rfl]
            rfl
      have ew : al (sW h m s) (i + 1) = (al (sW h m s) i && sW h m s i) := rfl
      have e82 : b_Mod_settle_82 F k7 (b_Mod_settle_18 F k7 n) m b (bI ((p3 && al (sE h m s) i) = true)) (nI s) (nI i) (nI (32 * s + i)) h = b_Mod_settle_18 F k7 n m b (bI (true = true)) (bI ((p3 && al (sE h m s) (i + 1)) = true)) (nI s) (nI (i + 1)) h := by rw [b_Mod_settle_82]; exact e87 true
      have e86 : b_Mod_settle_86 F k7 (b_Mod_settle_18 F k7 n) m b (bI ((p3 && al (sE h m s) i) = true)) (nI s) (nI i) (nI (32 * s + i)) h = b_Mod_settle_18 F k7 n m b (bI (false = true)) (bI ((p3 && al (sE h m s) (i + 1)) = true)) (nI s) (nI (i + 1)) h := by rw [b_Mod_settle_86]; exact e87 false
      rw [ew, ← Bool.and_assoc]
      cases q : (p2 && al (sW h m s) i) with
      | false => rw [if_pos (by rfl), e86]; rfl
      | true =>
        rw [if_neg (by decide), gd_t M.k, rq_k M.r_isEnded M.k_isEnded, M.n_isEnded, ixn (by omega) (by decide), Bool.true_and]
        by_cases e0 : hA h (m + 16) (32 * s + i) = 0
        · rw [if_pos e0, rq_k M.r_waits M.k_waits, M.n_waits, ixn (by omega) (by decide)]
          by_cases w0 : hA h (m + 17) (32 * s + i) = 0
          · rw [if_pos w0, c_Mod_isLane M hs, cl_some, bI_ite]
            by_cases r : rLn h m s i
            · rw [if_pos r, e86, show sW h m s i = false by unfold sW; rw [decide_eq_false (fun z => z e0), decide_eq_false (fun z => z w0), decide_eq_true r]; rfl]
            · rw [if_neg r, e82, show sW h m s i = true by unfold sW; rw [decide_eq_false r]; simp]
          · rw [if_neg w0, e82, show sW h m s i = true by unfold sW; rw [decide_eq_true w0]; simp]
        · rw [if_neg e0, e82, show sW h m s i = true by unfold sW; rw [decide_eq_true e0]; rfl]) (F := F) (by omega)
    have cL : nI ln ≤ nI ln := nI_le (Nat.le_refl _) (by omega)
    rw [show al (sW h m s) 0 = true from rfl, show al (sE h m s) 0 = true from rfl, Bool.and_true, Bool.and_true, nI_0] at st
    rw [st, b_Mod_settle_18]
    dsimp only
    rw [gd_t M.k, rq_k M.r_slotBlock M.k_slotBlock, M.n_slotBlock, ixn hs (by decide), if_pos ib, hl, if_pos cL, nI_1]
    unfold bW bE
    rw [it]
    rfl
  · have it : inB h m b s = false := decide_eq_false ib
    obtain ⟨n, rfl⟩ : ∃ n, F = n + 1 := ⟨F - 1, by omega⟩
    rw [b_Mod_settle_18]
    dsimp only
    rw [gd_t M.k, rq_k M.r_slotBlock M.k_slotBlock, M.n_slotBlock, ixn hs (by decide), if_neg ib, nI_1]
    unfold bW bE
    rw [it]
    simp
/-- what meeting leaves -/
def stG (h : Hp) (m ln : Nat) (b : Int32) (p2 p3 : Bool) (n i : Nat) : Nat → Nat → Int32 := fun a j => if a = (m + 17) ∧ p2 = true ∧ hA h (m + 9) (j / 32) = b ∧ ((j / 32 < n ∧ j % 32 < ln) ∨ (j / 32 = n ∧ j % 32 < i)) then 0 else if a = (m + 9) ∧ p3 = true ∧ j < n ∧ hA h (m + 9) j = b then -1 else hA h a j
theorem st134 {F : Nat} {h : Hp} {m ln : Nat} (M : Md h m) (hF : 40000 ≤ F) (hl : hI h 705 m = nI ln) (l32 : ln ≤ 32) (b : Int32) (p2 p3 : Bool) : b_Mod_settle_134 F F m b (bI (p2 = true)) (bI (p3 = true)) 0 h = some (sI (oA h (stG h m ln b p2 p3 128 0)) 725 m (hI h 725 m + bI (p3 = true))) := by
  have Mx : ∀ g, Md (oA h g) m := fun g => M.toA
  have sb : ∀ n i j, n ≤ j → stG h m ln b p2 p3 n i (m + 9) j = hA h (m + 9) j := fun n i j hj => by
    unfold stG
    rw [if_neg (by omega), if_neg (by omega)]
  have st := iterF (fun n s => b_Mod_settle_134 F n m b (bI (p2 = true)) (bI (p3 = true)) (nI s) (oA h (stG h m ln b p2 p3 s 0))) 128 (fun s n hs => by
    have c : ¬ (128 : Int32) ≤ nI s := nI_ge hs (by decide)
    have e188 : ∀ i, (hA h (m + 9) s = b → (p2 = true → i = ln) ∧ (¬ p2 = true → i = 0)) → (¬ hA h (m + 9) s = b → i = 0) → b_Mod_settle_188 F (b_Mod_settle_134 F n) m b (bI (p2 = true)) (bI (p3 = true)) (nI s) (oA h (stG h m ln b p2 p3 s i)) = b_Mod_settle_134 F n m b (bI (p2 = true)) (bI (p3 = true)) (nI (s + 1)) (oA h (stG h m ln b p2 p3 (s + 1) 0)) := by
      intro i q1 q2
      have k1 : ∀ a j, (a = (m + 17) ∧ p2 = true ∧ hA h (m + 9) (j / 32) = b ∧ ((j / 32 < s ∧ j % 32 < ln) ∨ (j / 32 = s ∧ j % 32 < i))) ↔ (a = (m + 17) ∧ p2 = true ∧ hA h (m + 9) (j / 32) = b ∧ ((j / 32 < s + 1 ∧ j % 32 < ln) ∨ (j / 32 = s + 1 ∧ j % 32 < 0))) := by
        intro a j
        constructor
        · intro ⟨h1, h2, h3, h4⟩
          refine ⟨h1, h2, h3, Or.inl ?_⟩
          rcases h4 with h4 | h4
          · exact ⟨by omega, h4.2⟩
          · have := (q1 (by rw [← h4.1]; exact h3)).1 h2
            exact ⟨by omega, by omega⟩
        · intro ⟨h1, h2, h3, h4⟩
          refine ⟨h1, h2, h3, ?_⟩
          rcases h4 with h4 | h4
          · by_cases e : j / 32 = s
            · have := (q1 (by rw [← e]; exact h3)).1 h2
              exact Or.inr ⟨e, by omega⟩
            · exact Or.inl ⟨by omega, h4.2⟩
          · omega
      have skip : (¬ p3 = true ∨ ¬ hA h (m + 9) s = b) → oA h (stG h m ln b p2 p3 s i) = oA h (stG h m ln b p2 p3 (s + 1) 0) := by
        intro z
        refine oA_eq fun a j => ?_
        unfold stG
        have k2 : (a = (m + 9) ∧ p3 = true ∧ j < s ∧ hA h (m + 9) j = b) ↔ (a = (m + 9) ∧ p3 = true ∧ j < s + 1 ∧ hA h (m + 9) j = b) := by
          constructor
          · intro ⟨h1, h2, h3, h4⟩
            exact ⟨h1, h2, by omega, h4⟩
          · intro ⟨h1, h2, h3, h4⟩
            refine ⟨h1, h2, ?_, h4⟩
            by_cases e : j = s
            · rw [e] at h4
              rcases z with z | z
              · exact absurd h2 z
              · exact absurd h4 z
            · omega
        rw [ite_iff (k1 a j), ite_iff k2]
      rw [b_Mod_settle_188]
      by_cases q3 : p3 = true
      · rw [if_neg (by rw [bI_t q3]; decide), gd_t (Mx _).k, rq_k (Mx _).r_slotBlock (Mx _).k_slotBlock, (Mx _).n_slotBlock, ixn hs (by decide), ixn hs (by decide), qA_oA, sb _ _ _ (Nat.le_refl _)]
        by_cases ib : hA h (m + 9) s = b
        · rw [if_pos ib, pw_e, nI_1, sA_oA]
          congr 1
          refine oA_eq fun a j => ?_
          show (if a = (m + 9) ∧ j = s then (-1 : Int32) else stG h m ln b p2 p3 s i a j) = stG h m ln b p2 p3 (s + 1) 0 a j
          unfold stG
          by_cases e : a = (m + 9) ∧ j = s
          · rw [if_pos e, if_neg (by omega), if_pos ⟨e.1, q3, by omega, by rw [e.2]; exact ib⟩]
          · have k2 : (a = (m + 9) ∧ p3 = true ∧ j < s ∧ hA h (m + 9) j = b) ↔ (a = (m + 9) ∧ p3 = true ∧ j < s + 1 ∧ hA h (m + 9) j = b) := by
              constructor
              · intro ⟨h1, h2, h3, h4⟩
                exact ⟨h1, h2, by omega, h4⟩
              · intro ⟨h1, h2, h3, h4⟩
                exact ⟨h1, h2, by omega, h4⟩
            rw [if_neg e, ite_iff (k1 a j), ite_iff k2]
        · rw [if_neg ib, nI_1, skip (Or.inr ib)]
      · rw [if_pos (bI_f q3), nI_1, skip (Or.inl q3)]
    rw [b_Mod_settle_134]
    dsimp only
    rw [if_neg c]
    obtain ⟨f, hf⟩ : ∃ f, F = f + 1 := ⟨F - 1, by omega⟩
    have skip145 : (¬ p2 = true ∨ ¬ hA h (m + 9) s = b) → b_Mod_settle_145 F (b_Mod_settle_134 F n) F m b (bI (p2 = true)) (bI (p3 = true)) (nI s) 0 (oA h (stG h m ln b p2 p3 s 0)) = b_Mod_settle_188 F (b_Mod_settle_134 F n) m b (bI (p2 = true)) (bI (p3 = true)) (nI s) (oA h (stG h m ln b p2 p3 s 0)) := by
      intro z
      have : ∀ G, b_Mod_settle_145 F (b_Mod_settle_134 F n) (G + 1) m b (bI (p2 = true)) (bI (p3 = true)) (nI s) 0 (oA h (stG h m ln b p2 p3 s 0)) = b_Mod_settle_188 F (b_Mod_settle_134 F n) m b (bI (p2 = true)) (bI (p3 = true)) (nI s) (oA h (stG h m ln b p2 p3 s 0)) := fun G => by
        rw [b_Mod_settle_145]
        dsimp only
        by_cases z2 : p2 = true
        · rw [if_neg (by rw [bI_t z2]; decide), gd_t (Mx _).k, rq_k (Mx _).r_slotBlock (Mx _).k_slotBlock, (Mx _).n_slotBlock, ixn hs (by decide), qA_oA, sb _ _ _ (Nat.le_refl _), if_neg (z.resolve_left (fun y => y z2))]
        · rw [if_pos (bI_f z2)]
      have t := this f
      rw [← hf] at t
      exact t
    by_cases z2 : p2 = true
    · by_cases ib : hA h (m + 9) s = b
      · have si := iterF (fun n2 i => b_Mod_settle_145 F (b_Mod_settle_134 F n) n2 m b (bI (p2 = true)) (bI (p3 = true)) (nI s) (nI i) (oA h (stG h m ln b p2 p3 s i))) ln (fun i n2 hi => by
          have c2 : ¬ nI ln ≤ nI i := nI_ge hi (by omega)
          rw [b_Mod_settle_145]
          dsimp only
          rw [if_neg (by rw [bI_t z2]; decide), gd_t (Mx _).k, rq_k (Mx _).r_slotBlock (Mx _).k_slotBlock, (Mx _).n_slotBlock, ixn hs (by decide), qA_oA, sb _ _ _ (Nat.le_refl _), if_pos ib, qI_oA, hl, if_neg c2, rq_k (Mx _).r_waits (Mx _).k_waits, c_Mod_thread, cl_some, gd_t (Mx _).k_waits, (Mx _).n_waits, ixn (by omega) (by decide), pw_e, nI_1, sA_oA]
          congr 1
          refine oA_eq fun a j => ?_
          unfold stG up2
          by_cases ja : a = (m + 17)
          · by_cases jj : j = 32 * s + i
            · subst jj
              rw [if_pos ⟨ja, rfl⟩, if_pos ⟨ja, z2, by rw [show (32 * s + i) / 32 = s by omega]; exact ib, Or.inr (by omega)⟩]
            · rw [if_neg (fun z => jj z.2)]
              have e : (j / 32 < s ∧ j % 32 < ln ∨ j / 32 = s ∧ j % 32 < i) ↔ (j / 32 < s ∧ j % 32 < ln ∨ j / 32 = s ∧ j % 32 < i + 1) := by omega
              simp only [e]
          · simp only [ja, false_and, if_false]) (F := F) (by omega)
        have cL : nI ln ≤ nI ln := nI_le (Nat.le_refl _) (by omega)
        rw [nI_0] at si
        rw [si, b_Mod_settle_145]
        dsimp only
        rw [if_neg (by rw [bI_t z2]; decide), gd_t (Mx _).k, rq_k (Mx _).r_slotBlock (Mx _).k_slotBlock, (Mx _).n_slotBlock, ixn hs (by decide), qA_oA, sb _ _ _ (Nat.le_refl _), if_pos ib, qI_oA, hl, if_pos cL]
        exact e188 ln (fun _ => ⟨fun _ => rfl, fun z => absurd z2 z⟩) (fun z => absurd ib z)
      · rw [skip145 (Or.inr ib)]
        exact e188 0 (fun z => absurd z ib) (fun _ => rfl)
    · rw [skip145 (Or.inl z2)]
      exact e188 0 (fun _ => ⟨fun z => absurd z z2, fun _ => rfl⟩) (fun _ => rfl)) (F := F) (by omega)
  have e0 : oA h (stG h m ln b p2 p3 0 0) = h := by
    conv => rhs; rw [← oA_self h]
    refine oA_eq fun a j => ?_
    unfold stG
    rw [if_neg (by omega), if_neg (by omega)]
  rw [e0, nI_0] at st
  have c : (128 : Int32) ≤ nI 128 := by decide
  rw [st, b_Mod_settle_134]
  dsimp only
  rw [if_pos c, gd_t (Mx _).k, b_Mod_settle_231, b_Mod_settle_231, gd_t (Mx _).k, gd_t (Mx _).k, pw_e, pw_e, qI_oA]
  by_cases q : p3 = true
  · rw [bI_t q, if_neg (by decide)]
  · rw [bI_f q, if_pos rfl]
abbrev allW (h : Hp) (m ln : Nat) (b : Int32) : Bool := al (bW h m ln b) 128
abbrev allE (h : Hp) (m ln : Nat) (b : Int32) : Bool := al (bE h m ln b) 128
theorem c_Mod_settle {F : Nat} {h : Hp} {m ln : Nat} (M : Md h m) (hF : 40000 ≤ F) (hl : hI h 705 m = nI ln) (l32 : ln ≤ 32) (b : Int32) : f_Mod_settle F m b h = some (sI (oA h (stG h m ln b (allW h m ln b) (allE h m ln b) 128 0)) 725 m (hI h 725 m + bI (allE h m ln b = true))) := by
  have st := iterF (fun n s => b_Mod_settle_7 F n m b (bI (al (bW h m ln b) s = true)) (bI (al (bE h m ln b) s = true)) (nI s) h) 128 (fun s n hs => by
    have c : ¬ (128 : Int32) ≤ nI s := nI_ge hs (by decide)
    rw [b_Mod_settle_7]
    dsimp only
    rw [if_neg c, st18 M hF hs hl l32]
    rfl) (F := F) (by omega)
  have c : (128 : Int32) ≤ nI 128 := by decide
  rw [f_Mod_settle]
  have o1 : bI (al (bW h m ln b) 0 = true) = 1 := bI_t rfl
  have o2 : bI (al (bE h m ln b) 0 = true) = 1 := bI_t rfl
  rw [nI_0, o1, o2] at st
  rw [st, b_Mod_settle_7]
  dsimp only
  rw [if_pos c]
  exact st134 M hF hl l32 b _ _
