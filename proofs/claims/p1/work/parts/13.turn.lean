/-! what turned methods are made of -/
def gd {α : Type} (c : Prop) [Decidable c] (k : Option α) : Option α := if c then k else none
def pw {α β : Type} (x : α) (k : α → Option β) : Option β := k x
def rq {β : Type} (h : Hp) (o : Option Nat) (K : Nat) (k : Nat → Option β) : Option β := match o with
  | none => none
  | some a => if hK h a = K then k a else none
def nu {β : Type} (o : Option Nat) (A : Option β) (B : Nat → Option β) : Option β := match o with
  | none => A
  | some a => B a
def ix {β : Type} (i : Int32) (n : Nat) (k : Nat → Option β) : Option β := if i < 0 ∨ n ≤ i.toNatClampNeg then none else k i.toNatClampNeg
def cl {α β : Type} (x : Option (α × Hp)) (k : α → Hp → Option β) : Option β := match x with
  | none => none
  | some p => k p.1 p.2
def clv {β : Type} (x : Option Hp) (k : Hp → Option β) : Option β := match x with
  | none => none
  | some p => k p
theorem gd_s {α : Type} {c : Prop} [Decidable c] {k : Option α} {z : α} (h : gd c k = some z) : c ∧ k = some z := by
  unfold gd at h
  split at h
  · exact ⟨‹_›, h⟩
  · exact absurd h (by simp)
theorem pw_b {α β : Type} {x : α} {k : α → Option β} {z : β} (h : pw x k = some z) : k x = some z := h
theorem pw_s {α β : Type} {x : α} {k : α → Option β} {z : β} (h : pw x k = some z) : ∃ y, y = x ∧ k y = some z := ⟨x, rfl, h⟩
theorem rq_s {β : Type} {h : Hp} {o : Option Nat} {K : Nat} {k : Nat → Option β} {z : β} (q : rq h o K k = some z) : ∃ a, o = some a ∧ hK h a = K ∧ k a = some z := by
  cases o with
  | none => exact absurd q (by simp [rq])
  | some a =>
    simp only [rq] at q
    split at q
    · exact ⟨a, rfl, ‹_›, q⟩
    · exact absurd q (by simp)
theorem nu_n {β : Type} {A : Option β} {B : Nat → Option β} {z : β} (h : nu none A B = some z) : A = some z := h
theorem nu_s {β : Type} {a : Nat} {A : Option β} {B : Nat → Option β} {z : β} (h : nu (some a) A B = some z) : B a = some z := h
theorem ix_s {β : Type} {i : Int32} {n : Nat} {k : Nat → Option β} {z : β} (h : ix i n k = some z) : vp_in i n ∧ k i.toNatClampNeg = some z := by
  unfold ix at h
  split at h
  · exact absurd h (by simp)
  · exact ⟨‹_›, h⟩
theorem cl_s {α β : Type} {x : Option (α × Hp)} {k : α → Hp → Option β} {z : β} (h : cl x k = some z) : ∃ v h1, x = some (v, h1) ∧ k v h1 = some z := by
  cases x with
  | none => exact absurd h (by simp [cl])
  | some p => exact ⟨p.1, p.2, rfl, h⟩
theorem clv_s {β : Type} {x : Option Hp} {k : Hp → Option β} {z : β} (h : clv x k = some z) : ∃ h1, x = some h1 ∧ k h1 = some z := by
  cases x with
  | none => exact absurd h (by simp [clv])
  | some p => exact ⟨p, rfl, h⟩
theorem ifp {α : Type} {c : Prop} [Decidable c] {A B : Option α} {z : α} (h : (if c then A else B) = some z) (q : c) : A = some z := by rw [if_pos q] at h; exact h
theorem ifn {α : Type} {c : Prop} [Decidable c] {A B : Option α} {z : α} (h : (if c then A else B) = some z) (q : ¬ c) : B = some z := by rw [if_neg q] at h; exact h
theorem nm_s {α : Type} {z : α} {p : Prop} (h : (none : Option α) = some z) : p := absurd h (by simp)
abbrev pI (r : Int32) (h' : Hp) : Option Value → Hp → Prop := fun r1 h1 => r1 = some (.int r) ∧ h1 = h'
abbrev pR (r : Option Nat) (h' : Hp) : Option Value → Hp → Prop := fun r1 h1 => r1 = some (va_rf r) ∧ h1 = h'
abbrev pV (h' : Hp) : Option Value → Hp → Prop := fun r1 h1 => r1 = none ∧ h1 = h'
theorem pI_of {r v : Int32} {h h' : Hp} (q : some (v, h) = some (r, h')) : pI r h' (some (.int v)) h := by cases q; exact ⟨rfl, rfl⟩
theorem pR_of {r v : Option Nat} {h h' : Hp} (q : some (v, h) = some (r, h')) : pR r h' (some (va_rf v)) h := by cases q; exact ⟨rfl, rfl⟩
theorem pV_of {h h' : Hp} (q : some h = some h') : pV h' none h := by cases q; exact ⟨rfl, rfl⟩
abbrev pT (k : Nat) (h' : Hp) : Option Value → Hp → Prop := fun r1 h1 => r1 = some (.float (UInt32.ofNat k)) ∧ h1 = h'
theorem pT_of {k v : Nat} {h h' : Hp} (q : some (v, h) = some (k, h')) : pT k h' (some (.float (UInt32.ofNat v))) h := by cases q; exact ⟨rfl, rfl⟩
theorem nmI {r : Int32} {h' : Hp} : ∀ r1 h1, pI r h' r1 h1 → ¬ mk r1 := by
  rintro _ _ ⟨rfl, -⟩ ⟨u, hu⟩
  cases hu
theorem nmR {r : Option Nat} {h' : Hp} : ∀ r1 h1, pR r h' r1 h1 → ¬ mk r1 := by
  rintro _ _ ⟨rfl, -⟩ ⟨u, hu⟩
  cases r <;> cases hu
theorem nmV {h' : Hp} : ∀ r1 h1, pV h' r1 h1 → ¬ mk r1 := by
  rintro _ _ ⟨rfl, -⟩ ⟨u, hu⟩
  cases hu
theorem zok {v : Int32} (h : v = 0 ∨ v = 1) : narrow .boolean (.int v) = .int v := by rcases h with rfl | rfl <;> decide
theorem rOk_z {v : Int32} (h : v = 0 ∨ v = 1) : rOk (some .boolean) (some (.int v)) := zok h
theorem cat_rf (r : Option Nat) : (va_rf r).category = 1 := by cases r <;> rfl
theorem kksI {h : Hp} {f b a K : Nat} {v : Int32} (k : hK h a = K) : hK (sI h f b v) a = K := k
theorem krsI {h : Hp} {f b a g : Nat} {v : Int32} {o : Option Nat} (k : hR h g a = o) : hR (sI h f b v) g a = o := k
theorem kksR {h : Hp} {f b a K : Nat} {v : Option Nat} (k : hK h a = K) : hK (sR h f b v) a = K := k
theorem kksA {h : Hp} {f b a K : Nat} {v : Int32} (k : hK h a = K) : hK (sA h f b v) a = K := k
theorem krsA {h : Hp} {f b a g : Nat} {v : Int32} {o : Option Nat} (k : hR h g a = o) : hR (sA h f b v) g a = o := k
theorem kksQ {h : Hp} {f b a K : Nat} {v : Option Nat} (k : hK h a = K) : hK (sQ h f b v) a = K := k
theorem krsQ {h : Hp} {f b a g : Nat} {v : Option Nat} {o : Option Nat} (k : hR h g a = o) : hR (sQ h f b v) g a = o := k
theorem kksL {h : Hp} {f b a K : Nat} {v : Int64} (k : hK h a = K) : hK (sL h f b v) a = K := k
theorem krsL {h : Hp} {f b a g : Nat} {v : Int64} {o : Option Nat} (k : hR h g a = o) : hR (sL h f b v) g a = o := k
theorem hK_nw_n (h : Hp) (kd n u : Nat) : hK (nw h kd n u) (hT h) = kd := if_pos rfl
theorem sw_ne {x : Int32} {lo hi : Int} (h : x.toInt < lo ∨ hi < x.toInt) (k : Int32) (h1 : lo ≤ k.toInt) (h2 : k.toInt ≤ hi) : ¬ x = k := by
  intro q
  subst q
  omega
theorem sw_d {x a b : Int32} (h : x = a) (n : ¬ a = b) : ¬ x = b := fun q => n (h.symm.trans q)
theorem i32n {x c : Int32} {k : Int} (n : ¬ x = c) (e : c.toInt = k) : ¬ k = x.toInt := fun q => n (Int32.toInt_inj.mp (q.symm.trans e.symm))
theorem lo_c {a o k d z : Int} {r : List (Int × Int)} (h : ¬ a = k) (q : Op.lookupswitch.offset r d k = z) : Op.lookupswitch.offset ((a, o) :: r) d k = z := by
  rw [Op.lookupswitch.offset_cons, if_neg h]
  exact q
theorem g_byc {G : Gl} {mi : MI} {h0 h : Hp} {P : Option Value → Hp → Prop} {pc : Nat} {L : List (Nat × Value)} {st : List Value} {x : Int32} (c : Int32) (k1 : x = c → Go G mi h0 P h pc L (.int x :: st)) (k2 : ¬ x = c → Go G mi h0 P h pc L (.int x :: st)) : Go G mi h0 P h pc L (.int x :: st) := if q : x = c then k1 q else k2 q
theorem Go.vr {G : Gl} {mi : MI} {h0 h : Hp} {P : Option Value → Hp → Prop} {pc : Nat} {L : List (Nat × Value)} {st : List Value} {o o2 : Option Nat} (e : o2 = o) (k : Go G mi h0 P h pc L (va_rf o2 :: st)) : Go G mi h0 P h pc L (va_rf o :: st) := by subst e; exact k
theorem Go.vs {G : Gl} {mi : MI} {h0 h : Hp} {P : Option Value → Hp → Prop} {pc : Nat} {L : List (Nat × Value)} {st : List Value} {o : Option Nat} {a : Nat} (e : o = some a) (k : Go G mi h0 P h pc L (.ref a :: st)) : Go G mi h0 P h pc L (va_rf o :: st) := by subst e; exact k
theorem Go.kn {G : Gl} {mi : MI} {h0 h : Hp} {P : Option Value → Hp → Prop} {pc kd n u : Nat} {L : List (Nat × Value)} {st : List Value} (k : hK (nw h kd n u) (hT h) = kd → Go G mi h0 P (nw h kd n u) pc L st) : Go G mi h0 P (nw h kd n u) pc L st := k (hK_nw_n h kd n u)
theorem g_newk {G : Gl} {mi : MI} {h0 h : Hp} {P : Option Value → Hp → Prop} {pc : Nat} {L : List (Nat × Value)} {st : List Value} {idx : Nat} {C : String} {T : u_T} {N : Nat} (ci kd : Nat) (hkd : ci + 1 = kd) (hc : cOK ci C T N) (hl1 : Cond.classLink mi.1.cls idx C ∈ lw_tb) (hl2 : Cond.instantiable C N ∈ lw_tb) (hl3 : Cond.initialized C ∈ lw_tb) (hd : decode mi.2.1 pc = .ok (.new idx, 3)) (k : Go G mi h0 P (nw h kd 0 N) (pc + 3) L (.ref (hT h) :: st)) : Go G mi h0 P h pc L st := by
  subst hkd
  exact g_new hc hl1 hl2 hl3 hd k
theorem g_slen {G : Gl} {mi : MI} {h0 h : Hp} {P : Option Value → Hp → Prop} {pc : Nat} {L : List (Nat × Value)} {st : List Value} (hd : decode mi.2.1 pc = .ok (.arraylength, 1)) (k : Go G mi h0 P h (pc + 1) L (.int (nI (gL G)) :: st)) : Go G mi h0 P h pc L (.ref (gB G) :: st) := by
  refine Go.pure (fun p e R s m args below meth c Q H locs cells slots ls hC hR hl kk => ?_) k
  obtain ⟨scr, q1, q2, q3, q4, q5⟩ := hC.2.2.2.2.2.2.2.2.2.2.2.2.2.2.2.1
  have hb : H[gB G]? = some scr := by rw [hR.2.2.1 _ (Array.getElem?_eq_some_iff.mp q1).1]; exact q1
  exact W.alen (n := nI (gL G)) hC.1 hC.2.1 hb q2 (by rw [q4]; rfl) rfl rfl hd (kk ls hl)
theorem g_sld {G : Gl} {mi : MI} {h0 h : Hp} {P : Option Value → Hp → Prop} {pc : Nat} {L : List (Nat × Value)} {st : List Value} {i : Int32} (hin : vp_in i (gL G)) (hd : decode mi.2.1 pc = .ok (.iaload, 1)) (k : Go G mi h0 P h (pc + 1) L (.int (gX G i.toNatClampNeg) :: st)) : Go G mi h0 P h pc L (.int i :: .ref (gB G) :: st) := by
  refine Go.pure (fun p e R s m args below meth c Q H locs cells slots ls hC hR hl kk => ?_) k
  obtain ⟨scr, q1, q2, q3, q4, q5⟩ := hC.2.2.2.2.2.2.2.2.2.2.2.2.2.2.2.1
  have hb : H[gB G]? = some scr := by rw [hR.2.2.1 _ (Array.getElem?_eq_some_iff.mp q1).1]; exact q1
  have hlt : i.toNatClampNeg < gL G := Nat.not_le.mp fun q => hin (Or.inr q)
  exact W.iald (v := .int (gX G i.toNatClampNeg)) hC.1 hC.2.1 hb q2 q3 (by rw [q4]; exact hin) (q5 _ hlt) rfl rfl hd (kk ls hl)
theorem g_ldcw {G : Gl} {mi : MI} {h0 h : Hp} {P : Option Value → Hp → Prop} {pc : Nat} {L : List (Nat × Value)} {st : List Value} {idx : Nat} {v : Int32} (hw : Cond.constant mi.1.cls idx v ∈ lw_tb) (hd : decode mi.2.1 pc = .ok (.ldc_w idx, 3)) (k : Go G mi h0 P h (pc + 3) L (.int v :: st)) : Go G mi h0 P h (pc) L (st) := Go.pure (fun _ _ _ _ _ _ _ _ _ _ _ _ _ _ ls hC _ hl kk => lv_ldcw hC.1 hC.2.1 hC.2.2.2.1 (hC.2.2.2.2.1 _ hw) hd (kk ls hl)) k
