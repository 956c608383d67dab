/-! the reference: words that have nothing to do with a memory, all lanes -/
theorem opL (o n : Int32) (h0 : 0 ≤ o.toInt) (k : kKnown o n) (q : ¬ kMem o) : (¬ o < 4 ∧ ¬ 21 < o) ∨ o = 0 ∨ o = 1 ∨ o = 2 ∨ o = 3 ∨ o = 30 ∨ o = 31 ∨ o = 32 ∨ o = 33 ∨ o = 34 ∨ o = 35 ∨ o = 36 ∨ o = 40 ∨ o = 41 ∨ o = 42 ∨ o = 70 ∨ o = 71 ∨ o = 72 ∨ o = 73 := by
  unfold kKnown at k
  unfold kMem at q
  simp only [Int32.lt_iff_toInt_lt, Int32.le_iff_toInt_le, ← Int32.toInt_inj] at *
  simp only [show (0 : Int32).toInt = 0 by decide, show (1 : Int32).toInt = 1 by decide, show (2 : Int32).toInt = 2 by decide, show (3 : Int32).toInt = 3 by decide, show (4 : Int32).toInt = 4 by decide, show (6 : Int32).toInt = 6 by decide, show (21 : Int32).toInt = 21 by decide, show (30 : Int32).toInt = 30 by decide, show (31 : Int32).toInt = 31 by decide, show (32 : Int32).toInt = 32 by decide, show (33 : Int32).toInt = 33 by decide, show (34 : Int32).toInt = 34 by decide, show (35 : Int32).toInt = 35 by decide, show (36 : Int32).toInt = 36 by decide, show (40 : Int32).toInt = 40 by decide, show (41 : Int32).toInt = 41 by decide, show (42 : Int32).toInt = 42 by decide, show (50 : Int32).toInt = 50 by decide, show (59 : Int32).toInt = 59 by decide, show (70 : Int32).toInt = 70 by decide, show (71 : Int32).toInt = 71 by decide, show (72 : Int32).toInt = 72 by decide, show (73 : Int32).toInt = 73 by decide] at *
  omega
theorem opK (o : Int32) (z : ¬ 21 < o) : ¬ kWP o := by
  unfold kWP
  simp only [Int32.lt_iff_toInt_lt, Int32.le_iff_toInt_le, ← Int32.toInt_inj] at *
  simp only [show (0 : Int32).toInt = 0 by decide, show (1 : Int32).toInt = 1 by decide, show (2 : Int32).toInt = 2 by decide, show (3 : Int32).toInt = 3 by decide, show (4 : Int32).toInt = 4 by decide, show (6 : Int32).toInt = 6 by decide, show (21 : Int32).toInt = 21 by decide, show (30 : Int32).toInt = 30 by decide, show (31 : Int32).toInt = 31 by decide, show (32 : Int32).toInt = 32 by decide, show (33 : Int32).toInt = 33 by decide, show (34 : Int32).toInt = 34 by decide, show (35 : Int32).toInt = 35 by decide, show (36 : Int32).toInt = 36 by decide, show (40 : Int32).toInt = 40 by decide, show (41 : Int32).toInt = 41 by decide, show (42 : Int32).toInt = 42 by decide, show (50 : Int32).toInt = 50 by decide, show (59 : Int32).toInt = 59 by decide, show (70 : Int32).toInt = 70 by decide, show (71 : Int32).toInt = 71 by decide, show (72 : Int32).toInt = 72 by decide, show (73 : Int32).toInt = 73 by decide] at *
  omega
abbrev hs3 (pr p : Int32) : Prop := ((pr >>> ((p &&& 3) &&& 31)) &&& 1) = 1
def lP (o n x : Int32) : Option Int32 := if o = 40 ∨ o = 41 then some n else if o = 42 then some x else none
def lR (o n x y old tv ex vo : Int32) (q : Prop) [Decidable q] : Option Int32 := if o = 2 then some n else if o = 3 then some tv else if o = 41 then some (old + 1) else if o = 72 then some vo else if o = 73 then some ex else if ¬ o < 4 ∧ ¬ 21 < o then some (kV o x y n q) else none
abbrev lT (o n x y vo : Int32) (pa pb : Prop) : Prop := if o = 30 then ¬ y ≤ x else if o = 31 then x = y else if o = 32 then ¬ n ≤ x else if o = 33 then x = n else if o = 34 then pa ∧ pb else if o = 35 then pa ∨ pb else if o = 36 then ¬ pa else vo = 1
def lQ (o n x y vo pr a b : Int32) (d : Nat) : Option Int32 := if kWP o then some (if lT o n x y vo (hs3 pr a) (hs3 pr b) then pr ||| ((1 : Int32) <<< (nI (pn (nI d)) &&& 31)) else pr &&& (((1 : Int32) <<< (nI (pn (nI d)) &&& 31)) ^^^ -1)) else none
def lE (o : Int32) : Option Int32 := if o = 0 then some 1 else none
def lW (o : Int32) : Option Int32 := if o = 1 then some 1 else none
def sO (h : Hp) (a j : Nat) : Option Int32 → Hp
  | none => h
  | some v => sA h a j v
theorem ra_loc {F : Nat} {h : Hp} {m s i t a b d : Nat} {old : Int32} (M : Md h m) (hs : s < 128) (hi : i < 32) (et : t = 32 * s + i) (ha : hI h 758 m = nI a) (la : a < 16) (hb : hI h 759 m = nI b) (lb : b < 16) (hd : hI h 757 m = nI d) (ld : d < 16) {o nn x y pr tv ex vo : Int32} {ln : Nat} (ho : hI h 756 m = o) (hn : hI h 761 m = nn) (hx : hA h (m + 13) (16 * t + a) = x) (hy : hA h (m + 13) (16 * t + b) = y) (hp : hA h (m + 14) t = pr) (htv : tV h m s i nn = tv) (hvo : hI h 762 m = vo) (hl : hI h 705 m = nI ln) (hpw : ∃ k, k ≤ 5 ∧ ln = 2 ^ k) (hiL : i < ln) (hex : (if hA h (m + 27) (oth ln nn i) = 0 then hA h (m + 28) i else hA h (m + 28) (oth ln nn i)) = ex) (hz : o = 7 ∨ o = 8 → ¬ y = 0) (o0 : 0 ≤ o.toInt) (kk : kKnown o nn) (km : ¬ kMem o) : f_Mod_act F m (nI s) (nI i) (nI t) old h = some (sO (sO (sO (sO (sO h (m + 15) t (lP o nn x)) (m + 13) (16 * t + d) (lR o nn x y old tv ex vo (hs3 pr nn))) (m + 14) t (lQ o nn x y vo pr (nI a) (nI b) d)) (m + 16) t (lE o)) (m + 17) t (lW o)) := by
  subst hn
  subst hx
  subst hy
  subst hp
  subst htv
  subst hvo
  subst hex
  rcases opL o _ o0 kk km with z | z | z | z | z | z | z | z | z | z | z | z | z | z | z | z | z | z | z
  · have n1 : ¬ o = 0 := fun e => by subst e; exact z.1 (by decide)
    have n2 : ¬ o = 1 := fun e => by subst e; exact z.1 (by decide)
    have n3 : ¬ o = 2 := fun e => by subst e; exact z.1 (by decide)
    have n4 : ¬ o = 3 := fun e => by subst e; exact z.1 (by decide)
    have n5 : ¬ o = 40 := fun e => by subst e; exact z.2 (by decide)
    have n6 : ¬ o = 41 := fun e => by subst e; exact z.2 (by decide)
    have n7 : ¬ o = 42 := fun e => by subst e; exact z.2 (by decide)
    have n8 : ¬ o = 72 := fun e => by subst e; exact z.2 (by decide)
    have n9 : ¬ o = 73 := fun e => by subst e; exact z.2 (by decide)
    have n10 : ¬ kWP o := opK o z.2
    have e1 : ∀ x, lP o (hI h 761 m) x = none := fun x => by unfold lP; rw [if_neg (fun q => q.elim n5 n6), if_neg n7]
    have e2 : ∀ x y ol tv ex vo q [Decidable q], lR o (hI h 761 m) x y ol tv ex vo q = some (kV o x y (hI h 761 m) q) := fun x y ol tv ex vo q _ => by unfold lR; rw [if_neg n3, if_neg n4, if_neg n6, if_neg n8, if_neg n9, if_pos z]
    have e3 : ∀ x y vo pr a b d, lQ o (hI h 761 m) x y vo pr a b d = none := fun x y vo pr a b d => by unfold lQ; rw [if_neg n10]
    have e4 : lE o = none := by unfold lE; rw [if_neg n1]
    have e5 : lW o = none := by unfold lW; rw [if_neg n2]
    rw [e1, e2, e3, e4, e5]
    subst ho
    rw [ra_k M hs hi et ha la hb lb hd ld hz n1 n2 n3 n4 z.2]
    rfl
  · subst z
    rw [ra_0 M hs hi et ha la hb lb hd ld ho]
    simp (decide := true) only [lP, lR, lQ, lT, lE, lW, sO, kWP, hs3, rHas, if_true, if_false, or_true, true_or, or_false, false_or, or_self, not_true_eq_false, not_false_eq_true, reduceIte]
  · subst z
    rw [ra_1 M hs hi et ha la hb lb hd ld ho]
    simp (decide := true) only [lP, lR, lQ, lT, lE, lW, sO, kWP, hs3, rHas, if_true, if_false, or_true, true_or, or_false, false_or, or_self, not_true_eq_false, not_false_eq_true, reduceIte]
  · subst z
    rw [ra_2 M hs hi et ha la hb lb hd ld ho]
    simp (decide := true) only [lP, lR, lQ, lT, lE, lW, sO, kWP, hs3, rHas, if_true, if_false, or_true, true_or, or_false, false_or, or_self, not_true_eq_false, not_false_eq_true, reduceIte]
  · subst z
    rw [ra_3 M hs hi et ha la hb lb hd ld ho]
    simp (decide := true) only [lP, lR, lQ, lT, lE, lW, sO, kWP, hs3, rHas, if_true, if_false, or_true, true_or, or_false, false_or, or_self, not_true_eq_false, not_false_eq_true, reduceIte]
  · subst z
    rw [ra_30 M hs hi et ha la hb lb hd ld ho]
    simp (decide := true) only [lP, lR, lQ, lT, lE, lW, sO, kWP, hs3, rHas, if_true, if_false, or_true, true_or, or_false, false_or, or_self, not_true_eq_false, not_false_eq_true, reduceIte]
  · subst z
    rw [ra_31 M hs hi et ha la hb lb hd ld ho]
    simp (decide := true) only [lP, lR, lQ, lT, lE, lW, sO, kWP, hs3, rHas, if_true, if_false, or_true, true_or, or_false, false_or, or_self, not_true_eq_false, not_false_eq_true, reduceIte]
  · subst z
    rw [ra_32 M hs hi et ha la hb lb hd ld ho]
    simp (decide := true) only [lP, lR, lQ, lT, lE, lW, sO, kWP, hs3, rHas, if_true, if_false, or_true, true_or, or_false, false_or, or_self, not_true_eq_false, not_false_eq_true, reduceIte]
  · subst z
    rw [ra_33 M hs hi et ha la hb lb hd ld ho]
    simp (decide := true) only [lP, lR, lQ, lT, lE, lW, sO, kWP, hs3, rHas, if_true, if_false, or_true, true_or, or_false, false_or, or_self, not_true_eq_false, not_false_eq_true, reduceIte]
  · subst z
    rw [ra_34 M hs hi et ha la hb lb hd ld ho]
    simp (decide := true) only [lP, lR, lQ, lT, lE, lW, sO, kWP, hs3, rHas, if_true, if_false, or_true, true_or, or_false, false_or, or_self, not_true_eq_false, not_false_eq_true, reduceIte]
  · subst z
    rw [ra_35 M hs hi et ha la hb lb hd ld ho]
    simp (decide := true) only [lP, lR, lQ, lT, lE, lW, sO, kWP, hs3, rHas, if_true, if_false, or_true, true_or, or_false, false_or, or_self, not_true_eq_false, not_false_eq_true, reduceIte]
  · subst z
    rw [ra_36 M hs hi et ha la hb lb hd ld ho]
    simp (decide := true) only [lP, lR, lQ, lT, lE, lW, sO, kWP, hs3, rHas, if_true, if_false, or_true, true_or, or_false, false_or, or_self, not_true_eq_false, not_false_eq_true, reduceIte]
  · subst z
    rw [ra_40 M hs hi et ha la hb lb hd ld ho]
    simp (decide := true) only [lP, lR, lQ, lT, lE, lW, sO, kWP, hs3, rHas, if_true, if_false, or_true, true_or, or_false, false_or, or_self, not_true_eq_false, not_false_eq_true, reduceIte]
  · subst z
    rw [ra_41 M hs hi et ha la hb lb hd ld ho]
    simp (decide := true) only [lP, lR, lQ, lT, lE, lW, sO, kWP, hs3, rHas, if_true, if_false, or_true, true_or, or_false, false_or, or_self, not_true_eq_false, not_false_eq_true, reduceIte]
  · subst z
    rw [ra_42 M hs hi et ha la hb lb hd ld ho]
    simp (decide := true) only [lP, lR, lQ, lT, lE, lW, sO, kWP, hs3, rHas, if_true, if_false, or_true, true_or, or_false, false_or, or_self, not_true_eq_false, not_false_eq_true, reduceIte]
  · subst z
    rw [ra_70 M hs hi et ha la hb lb hd ld ho]
    simp (decide := true) only [lP, lR, lQ, lT, lE, lW, sO, kWP, hs3, rHas, if_true, if_false, or_true, true_or, or_false, false_or, or_self, not_true_eq_false, not_false_eq_true, reduceIte]
  · subst z
    rw [ra_71 M hs hi et ha la hb lb hd ld ho]
    simp (decide := true) only [lP, lR, lQ, lT, lE, lW, sO, kWP, hs3, rHas, if_true, if_false, or_true, true_or, or_false, false_or, or_self, not_true_eq_false, not_false_eq_true, reduceIte]
  · subst z
    rw [ra_72 M hs hi et ha la hb lb hd ld ho]
    simp (decide := true) only [lP, lR, lQ, lT, lE, lW, sO, kWP, hs3, rHas, if_true, if_false, or_true, true_or, or_false, false_or, or_self, not_true_eq_false, not_false_eq_true, reduceIte]
  · subst z
    rw [ra_73 M hs hi et ha la hb lb hd ld hl hpw hiL ho]
    simp (decide := true) only [lP, lR, lQ, lT, lE, lW, sO, kWP, hs3, rHas, if_true, if_false, or_true, true_or, or_false, false_or, or_self, not_true_eq_false, not_false_eq_true, reduceIte]
/-! arrays with some places anew -/
def up2o (g : Nat → Nat → Int32) (a j : Nat) : Option Int32 → Nat → Nat → Int32
  | none => g
  | some v => up2 g a j v
theorem sO_oA (h : Hp) (g : Nat → Nat → Int32) (a j : Nat) (v : Option Int32) : sO (oA h g) a j v = oA h (up2o g a j v) := by cases v <;> rfl
theorem up2o_fx {g : Nat → Nat → Int32} {a c k n b j : Nat} {Q : Nat → Bool} {f : Nat → Int32} {v : Option Int32} (h : ¬ b = a) : up2o (fx g a c k n Q f) b j v = fx (up2o g b j v) a c k n Q f := by
  cases v with
  | none => rfl
  | some v => exact up2_fx h
def fo (g : Nat → Nat → Int32) (a c k n : Nat) (D : Nat → Bool) (f : Nat → Option Int32) : Nat → Nat → Int32 := fx g a c k n (fun i => D i && (f i).isSome) (fun i => (f i).getD 0)
theorem fo_0 (g : Nat → Nat → Int32) (a c k : Nat) (D : Nat → Bool) (f : Nat → Option Int32) : fo g a c k 0 D f = g := fx_0 _ _ _ _ _ _
theorem fo_y {g : Nat → Nat → Int32} {a c k n j : Nat} {D : Nat → Bool} {f : Nat → Option Int32} (hk : 0 < k) (e : j = c + k * n) (q : D n = true) : up2o (fo g a c k n D f) a j (f n) = fo g a c k (n + 1) D f := by
  unfold fo
  cases z : f n with
  | none =>
    show fx g a c k n (fun i => D i && (f i).isSome) (fun i => (f i).getD 0) = _
    refine fx_n (Q := fun i => D i && (f i).isSome) ?_
    show (D n && (f n).isSome) = false
    rw [z, q]
    rfl
  | some v =>
    have := fx_y (g := g) (a := a) (c := c) (k := k) (n := n) (j := j) (Q := fun i => D i && (f i).isSome) (f := fun i => (f i).getD 0) hk e (by rw [z, q]; rfl)
    rw [z] at this
    exact this
theorem fo_n {g : Nat → Nat → Int32} {a c k n : Nat} {D : Nat → Bool} {f : Nat → Option Int32} (q : D n = false) : fo g a c k n D f = fo g a c k (n + 1) D f := fx_n (by rw [q]; rfl)
theorem up2o_fo {g : Nat → Nat → Int32} {a c k n b j : Nat} {D : Nat → Bool} {f : Nat → Option Int32} {v : Option Int32} (h : ¬ b = a) : up2o (fo g a c k n D f) b j v = fo (up2o g b j v) a c k n D f := up2o_fx h
theorem up2_fo {g : Nat → Nat → Int32} {a c k n b j : Nat} {D : Nat → Bool} {f : Nat → Option Int32} {v : Int32} (h : ¬ b = a) : up2 (fo g a c k n D f) b j v = fo (up2 g b j v) a c k n D f := up2_fx h
theorem fo_o {g : Nat → Nat → Int32} {a c k n b j : Nat} {D : Nat → Bool} {f : Nat → Option Int32} (h : ¬ b = a) : fo g a c k n D f b j = g b j := fx_o h
theorem fo_c {g : Nat → Nat → Int32} {a c k n b j : Nat} {D : Nat → Bool} {f : Nat → Option Int32} (h : ∀ i, i < n → ¬ j = c + k * i) : fo g a c k n D f b j = g b j := fx_c h
theorem fo_i {g : Nat → Nat → Int32} {a c k n i j : Nat} {D : Nat → Bool} {f : Nat → Option Int32} (hk : 0 < k) (e : j = c + k * i) (hi : i < n) : fo g a c k n D f a j = if D i = true then (f i).getD (g a j) else g a j := by
  unfold fo
  rw [fx_i hk e]
  by_cases q : D i = true
  · rw [if_pos q, q]
    cases z : f i with
    | none => rw [if_neg (by simp)]; rfl
    | some v => rw [if_pos ⟨hi, rfl⟩]; rfl
  · rw [if_neg q, if_neg (fun z => by have := z.2; simp [q] at this)]
/-! all lanes -/
def lcN (g : Nat → Nat → Int32) (m s d n : Nat) (G D : Nat → Bool) (PF : Nat → Int32) (RF QF : Nat → Option Int32) (e w : Option Int32) : Nat → Nat → Int32 := fo (fo (fo (fo (fx g (m + 15) (32 * s) 1 n G PF) (m + 13) (512 * s + d) 16 n D RF) (m + 14) (32 * s) 1 n D QF) (m + 16) (32 * s) 1 n D (fun _ => e)) (m + 17) (32 * s) 1 n D (fun _ => w)
theorem lcN_0 (g : Nat → Nat → Int32) (m s d : Nat) (G D : Nat → Bool) (PF : Nat → Int32) (RF QF : Nat → Option Int32) (e w : Option Int32) : lcN g m s d 0 G D PF RF QF e w = g := by
  unfold lcN
  rw [fo_0, fo_0, fo_0, fo_0, fx_0]
theorem lcN_o {g : Nat → Nat → Int32} {m s d n : Nat} {G D : Nat → Bool} {PF : Nat → Int32} {RF QF : Nat → Option Int32} {e w : Option Int32} {b j : Nat} (h : ¬ ((m + 13) ≤ b ∧ b ≤ (m + 17))) : lcN g m s d n G D PF RF QF e w b j = g b j := by
  unfold lcN
  rw [fo_o (by omega), fo_o (by omega), fo_o (by omega), fo_o (by omega), fx_o (by omega)]
theorem lcN_pl {g : Nat → Nat → Int32} {m s d n : Nat} {G D : Nat → Bool} {PF : Nat → Int32} {RF QF : Nat → Option Int32} {e w : Option Int32} {j : Nat} (h : ∀ i, i < n → ¬ j = 32 * s + i) : lcN g m s d n G D PF RF QF e w (m + 15) j = g (m + 15) j := by
  unfold lcN
  rw [fo_o (by omega), fo_o (by omega), fo_o (by omega), fo_o (by omega), fx_c (fun i hi => by have := h i hi; omega)]
theorem lcN_rg {g : Nat → Nat → Int32} {m s d n : Nat} {G D : Nat → Bool} {PF : Nat → Int32} {RF QF : Nat → Option Int32} {e w : Option Int32} {j : Nat} (h : ∀ i, i < n → ¬ j = 512 * s + d + 16 * i) : lcN g m s d n G D PF RF QF e w (m + 13) j = g (m + 13) j := by
  unfold lcN
  rw [fo_o (by omega), fo_o (by omega), fo_o (by omega), fo_c h, fx_o (by omega)]
theorem lcN_pr {g : Nat → Nat → Int32} {m s d n : Nat} {G D : Nat → Bool} {PF : Nat → Int32} {RF QF : Nat → Option Int32} {e w : Option Int32} {j : Nat} (h : ∀ i, i < n → ¬ j = 32 * s + i) : lcN g m s d n G D PF RF QF e w (m + 14) j = g (m + 14) j := by
  unfold lcN
  rw [fo_o (by omega), fo_o (by omega), fo_c (fun i hi => by have := h i hi; omega), fo_o (by omega), fx_o (by omega)]
theorem up2_same' (g : Nat → Nat → Int32) (a j : Nat) (v : Int32) (o : Option Int32) : up2o (up2 g a j v) a j o = up2 g a j (o.getD v) := by
  cases o with
  | none => rfl
  | some w => exact up2_same g a j v w
/-- a lane that does the word -/
theorem lcN_y {g : Nat → Nat → Int32} {m s d n : Nat} {G D : Nat → Bool} {PF : Nat → Int32} {RF QF : Nat → Option Int32} {e w : Option Int32} {v : Int32} {po : Option Int32} (qG : G n = true) (qD : D n = true) (ep : po.getD v = PF n) : up2o (up2o (up2o (up2o (up2o (up2 (lcN g m s d n G D PF RF QF e w) (m + 15) (32 * s + n) v) (m + 15) (32 * s + n) po) (m + 13) (16 * (32 * s + n) + d) (RF n)) (m + 14) (32 * s + n) (QF n)) (m + 16) (32 * s + n) e) (m + 17) (32 * s + n) w = lcN g m s d (n + 1) G D PF RF QF e w := by
  have n1 : ¬ (m + 15) = (m + 17) := by omega
  have n2 : ¬ (m + 15) = (m + 16) := by omega
  have n3 : ¬ (m + 15) = (m + 14) := by omega
  have n4 : ¬ (m + 15) = (m + 13) := by omega
  have n5 : ¬ (m + 13) = (m + 17) := by omega
  have n6 : ¬ (m + 13) = (m + 16) := by omega
  have n7 : ¬ (m + 13) = (m + 14) := by omega
  have n8 : ¬ (m + 14) = (m + 17) := by omega
  have n9 : ¬ (m + 14) = (m + 16) := by omega
  have n10 : ¬ (m + 16) = (m + 17) := by omega
  rw [up2_same', ep]
  unfold lcN
  rw [up2_fo n1, up2_fo n2, up2_fo n3, up2_fo n4, fx_y (by decide) (by omega) qG]
  rw [up2o_fo n5, up2o_fo n6, up2o_fo n7, fo_y (by decide) (by omega) qD]
  rw [up2o_fo n8, up2o_fo n9, fo_y (by decide) (by omega) qD]
  rw [up2o_fo n10, fo_y (f := fun _ => e) (by decide) (by omega) qD]
  rw [fo_y (f := fun _ => w) (by decide) (by omega) qD]
/-- a lane of the group that does not -/
theorem lcN_n {g : Nat → Nat → Int32} {m s d n : Nat} {G D : Nat → Bool} {PF : Nat → Int32} {RF QF : Nat → Option Int32} {e w : Option Int32} {v : Int32} (qG : G n = true) (qD : D n = false) (ep : v = PF n) : up2 (lcN g m s d n G D PF RF QF e w) (m + 15) (32 * s + n) v = lcN g m s d (n + 1) G D PF RF QF e w := by
  have n1 : ¬ (m + 15) = (m + 17) := by omega
  have n2 : ¬ (m + 15) = (m + 16) := by omega
  have n3 : ¬ (m + 15) = (m + 14) := by omega
  have n4 : ¬ (m + 15) = (m + 13) := by omega
  rw [ep]
  unfold lcN
  rw [up2_fo n1, up2_fo n2, up2_fo n3, up2_fo n4, fx_y (by decide) (by omega) qG, fo_n qD, fo_n qD, fo_n qD, fo_n qD]
theorem lcN_g {g : Nat → Nat → Int32} {m s d n : Nat} {G D : Nat → Bool} {PF : Nat → Int32} {RF QF : Nat → Option Int32} {e w : Option Int32} (qG : G n = false) (qD : D n = false) : lcN g m s d n G D PF RF QF e w = lcN g m s d (n + 1) G D PF RF QF e w := by
  unfold lcN
  rw [fx_n qG, fo_n qD, fo_n qD, fo_n qD, fo_n qD]
abbrev aX (h : Hp) (m s a i : Nat) : Int32 := hA h (m + 13) (16 * (32 * s + i) + a)
def lcF (h : Hp) (m s a : Nat) (i : Nat) : Int32 := if dsB h m i = true then (lP (hI h 756 m) (hI h 761 m) (aX h m s a i)).getD (hA h (m + 15) (32 * s + i) + 1) else hA h (m + 15) (32 * s + i) + 1
def lcR (h : Hp) (m s a b ln : Nat) (i : Nat) : Option Int32 := lR (hI h 756 m) (hI h 761 m) (aX h m s a i) (aX h m s b i) (hA h (m + 15) (32 * s + i)) (tV h m s i (hI h 761 m)) (if hA h (m + 27) (oth ln (hI h 761 m) i) = 0 then hA h (m + 28) i else hA h (m + 28) (oth ln (hI h 761 m) i)) (hI h 762 m) (hs3 (hA h (m + 14) (32 * s + i)) (hI h 761 m))
def lcQ (h : Hp) (m s a b d : Nat) (i : Nat) : Option Int32 := lQ (hI h 756 m) (hI h 761 m) (aX h m s a i) (aX h m s b i) (hI h 762 m) (hA h (m + 14) (32 * s + i)) (nI a) (nI b) d
/-- the reference's lanes after a word without a memory -/
def lcH (h : Hp) (m s a b d ln n : Nat) : Hp := oA h (lcN (hA h) m s d n (gpB h m) (dsB h m) (lcF h m s a) (lcR h m s a b ln) (lcQ h m s a b d) (lE (hI h 756 m)) (lW (hI h 756 m)))
theorem oA_up2 (h : Hp) (g : Nat → Nat → Int32) (a j : Nat) (v : Int32) : sA (oA h g) a j v = oA h (up2 g a j v) := rfl
theorem l_go318 {F : Nat} {h : Hp} {m s a b d ln : Nat} (M : Md h m) (hF : 40000 ≤ F) (hs : s < 128) (ha : hI h 758 m = nI a) (la : a < 16) (hb : hI h 759 m = nI b) (lb : b < 16) (hd : hI h 757 m = nI d) (ld : d < 16) (hl : hI h 705 m = nI ln) (hpw : ∃ k, k ≤ 5 ∧ ln = 2 ^ k) (l32 : ln ≤ 32) (gd1 : ∀ i, i < ln → dsB h m i = true → gpB h m i = true) (hz : hI h 756 m = 7 ∨ hI h 756 m = 8 → ∀ i, i < ln → dsB h m i = true → ¬ aX h m s b i = 0) (o0 : 0 ≤ (hI h 756 m).toInt) (kk : kKnown (hI h 756 m) (hI h 761 m)) (km : ¬ kMem (hI h 756 m)) (v : Int32) : ∃ n, b_Mod_go_318 F F m (nI s) v 0 h = b_Mod_go_318 F (n + 1) m (nI s) v (nI ln) (lcH h m s a b d ln ln) := by
  have st := iterF (fun n i => b_Mod_go_318 F n m (nI s) v (nI i) (lcH h m s a b d ln i)) ln (fun i n hi => by
    have c : ¬ nI ln ≤ nI i := nI_ge hi (by omega)
    have Mi : Md (lcH h m s a b d ln i) m := M.toA
    have ro : ∀ b2 j, ¬ ((m + 13) ≤ b2 ∧ b2 ≤ (m + 17)) → hA (lcH h m s a b d ln i) b2 j = hA h b2 j := fun b2 j z => by unfold lcH; rw [qA_oA, lcN_o z]
    have ri : ∀ f, hI (lcH h m s a b d ln i) f m = hI h f m := fun f => by unfold lcH; rw [qI_oA]
    have rp : hA (lcH h m s a b d ln i) (m + 15) (32 * s + i) = hA h (m + 15) (32 * s + i) := by unfold lcH; rw [qA_oA, lcN_pl (fun j hj => by omega)]
    have e1 : (fun (h2 : Hp) => h2) (sA (lcH h m s a b d ln i) (m + 15) (32 * s + i) (hA h (m + 15) (32 * s + i) + 1)) = oA h (up2 (lcN (hA h) m s d i (gpB h m) (dsB h m) (lcF h m s a) (lcR h m s a b ln) (lcQ h m s a b d) (lE (hI h 756 m)) (lW (hI h 756 m))) (m + 15) (32 * s + i) (hA h (m + 15) (32 * s + i) + 1)) := rfl
    dsimp only at e1
    rw [b_Mod_go_318]
    dsimp only
    rw [gd_t Mi.k, ri, hl, if_neg c, rq_k Mi.r_inGroup Mi.k_inGroup, Mi.n_inGroup, ixn (by omega) (by decide), ro _ _ (by omega)]
    by_cases g0 : hA h (m + 26) i = 0
    · have gf : gpB h m i = false := decide_eq_false (fun z => z g0)
      have df : dsB h m i = false := by
        cases z : dsB h m i with
        | false => rfl
        | true => rw [gd1 i hi z] at gf; cases gf
      rw [if_pos g0, nI_1]
      unfold lcH
      rw [lcN_g gf df]
    · have gt : gpB h m i = true := decide_eq_true g0
      have Mp : ∀ v, Md (sA (lcH h m s a b d ln i) (m + 15) (32 * s + i) v) m := fun v => Mi.tsA
      have qd : ∀ v, hA (sA (lcH h m s a b d ln i) (m + 15) (32 * s + i) v) (m + 27) i = hA h (m + 27) i := fun v => by rw [qA_sA, if_neg (by omega), ro _ _ (by omega)]
      rw [if_neg g0, c_Mod_thread, cl_some, gd_t Mi.k, rq_k Mi.r_place Mi.k_place, Mi.n_place, ixn (by omega) (by decide), ixn (by omega) (by decide), pw_e, rp, rq_k (Mp _).r_does (Mp _).k_does, (Mp _).n_does, ixn (by omega) (by decide), qd]
      by_cases d0 : hA h (m + 27) i = 0
      · have df : dsB h m i = false := decide_eq_false (fun z => z d0)
        rw [if_pos d0, nI_1, e1, lcN_n gt df (show _ = lcF h m s a i by unfold lcF; rw [df]; rfl)]
        rfl
      · have dt : dsB h m i = true := decide_eq_true d0
        have qa : ∀ b2 j, ¬ ((m + 13) ≤ b2 ∧ b2 ≤ (m + 17)) → hA (sA (lcH h m s a b d ln i) (m + 15) (32 * s + i) (hA h (m + 15) (32 * s + i) + 1)) b2 j = hA h b2 j := fun b2 j z => by rw [qA_sA, if_neg (by omega), ro _ _ z]
        have qr : ∀ r, r < 16 → hA (sA (lcH h m s a b d ln i) (m + 15) (32 * s + i) (hA h (m + 15) (32 * s + i) + 1)) (m + 13) (16 * (32 * s + i) + r) = hA h (m + 13) (16 * (32 * s + i) + r) := fun r hr => by
          rw [qA_sA, if_neg (by omega)]
          unfold lcH
          rw [qA_oA, lcN_rg (fun j hj => by omega)]
        have qp : hA (sA (lcH h m s a b d ln i) (m + 15) (32 * s + i) (hA h (m + 15) (32 * s + i) + 1)) (m + 14) (32 * s + i) = hA h (m + 14) (32 * s + i) := by
          rw [qA_sA, if_neg (by omega)]
          unfold lcH
          rw [qA_oA, lcN_pr (fun j hj => by omega)]
        have qi : ∀ f, hI (sA (lcH h m s a b d ln i) (m + 15) (32 * s + i) (hA h (m + 15) (32 * s + i) + 1)) f m = hI h f m := fun f => by rw [qI_sA, ri]
        have qt : tV (sA (lcH h m s a b d ln i) (m + 15) (32 * s + i) (hA h (m + 15) (32 * s + i) + 1)) m s i (hI h 761 m) = tV h m s i (hI h 761 m) := by
          unfold tV
          rw [qi, qi, qi, qa _ _ (by omega), qa _ _ (by omega)]
        have ac := ra_loc (F := F) (t := 32 * s + i) (old := hA h (m + 15) (32 * s + i)) (Mp (hA h (m + 15) (32 * s + i) + 1)) hs (show i < 32 by omega) rfl (a := a) (b := b) (d := d) (by rw [qi]; exact ha) la (by rw [qi]; exact hb) lb (by rw [qi]; exact hd) ld (qi _) (qi _) (qr a la) (qr b lb) qp qt (qi _) (by rw [qi]; exact hl) hpw hi (by rw [qa _ _ (by omega), qa _ _ (by omega), qa _ _ (by omega)]) (fun z => hz z i hi dt) o0 kk km
        rw [if_neg d0, ac, clv_some, nI_1, e1, sO_oA, sO_oA, sO_oA, sO_oA, sO_oA]
        have fin := lcN_y (g := hA h) (m := m) (s := s) (d := d) (n := i) (G := gpB h m) (D := dsB h m) (PF := lcF h m s a) (RF := lcR h m s a b ln) (QF := lcQ h m s a b d) (e := lE (hI h 756 m)) (w := lW (hI h 756 m)) (v := hA h (m + 15) (32 * s + i) + 1) (po := lP (hI h 756 m) (hI h 761 m) (aX h m s a i)) gt dt (by unfold lcF; rw [if_pos dt])
        unfold lcR lcQ at fin
        unfold lcH
        unfold lcR lcQ
        rw [fin]) (F := F) (by omega)
  have e0 : lcH h m s a b d ln 0 = h := by unfold lcH; rw [lcN_0, oA_self]
  rw [e0, nI_0] at st
  exact ⟨_, st⟩
