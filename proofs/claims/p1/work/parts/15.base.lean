/-! reading turned functions -/
theorem qT_sI (h : Hp) (f a : Nat) (x : Int32) : hT (sI h f a x) = hT h := Eq.trans rfl rfl
theorem qU_sI (h : Hp) (f a : Nat) (x : Int32) : hU (sI h f a x) = hU h := Eq.trans rfl rfl
theorem qK_sI (h : Hp) (f a : Nat) (x : Int32) : hK (sI h f a x) = hK h := Eq.trans rfl rfl
theorem qN_sI (h : Hp) (f a : Nat) (x : Int32) : hN (sI h f a x) = hN h := Eq.trans rfl rfl
theorem qI_sI (h : Hp) (f a : Nat) (x : Int32) (j b : Nat) : hI (sI h f a x) j b = if j = f ∧ b = a then x else hI h j b := Eq.trans rfl rfl
theorem qR_sI (h : Hp) (f a : Nat) (x : Int32) : hR (sI h f a x) = hR h := Eq.trans rfl rfl
theorem qA_sI (h : Hp) (f a : Nat) (x : Int32) : hA (sI h f a x) = hA h := Eq.trans rfl rfl
theorem qQ_sI (h : Hp) (f a : Nat) (x : Int32) : hQ (sI h f a x) = hQ h := Eq.trans rfl rfl
theorem qL_sI (h : Hp) (f a : Nat) (x : Int32) : hL (sI h f a x) = hL h := Eq.trans rfl rfl
theorem qT_sR (h : Hp) (f a : Nat) (x : Option Nat) : hT (sR h f a x) = hT h := Eq.trans rfl rfl
theorem qU_sR (h : Hp) (f a : Nat) (x : Option Nat) : hU (sR h f a x) = hU h := Eq.trans rfl rfl
theorem qK_sR (h : Hp) (f a : Nat) (x : Option Nat) : hK (sR h f a x) = hK h := Eq.trans rfl rfl
theorem qN_sR (h : Hp) (f a : Nat) (x : Option Nat) : hN (sR h f a x) = hN h := Eq.trans rfl rfl
theorem qI_sR (h : Hp) (f a : Nat) (x : Option Nat) : hI (sR h f a x) = hI h := Eq.trans rfl rfl
theorem qR_sR (h : Hp) (f a : Nat) (x : Option Nat) (j b : Nat) : hR (sR h f a x) j b = if j = f ∧ b = a then x else hR h j b := Eq.trans rfl rfl
theorem qA_sR (h : Hp) (f a : Nat) (x : Option Nat) : hA (sR h f a x) = hA h := Eq.trans rfl rfl
theorem qQ_sR (h : Hp) (f a : Nat) (x : Option Nat) : hQ (sR h f a x) = hQ h := Eq.trans rfl rfl
theorem qL_sR (h : Hp) (f a : Nat) (x : Option Nat) : hL (sR h f a x) = hL h := Eq.trans rfl rfl
theorem qT_sA (h : Hp) (f a : Nat) (x : Int32) : hT (sA h f a x) = hT h := Eq.trans rfl rfl
theorem qU_sA (h : Hp) (f a : Nat) (x : Int32) : hU (sA h f a x) = hU h := Eq.trans rfl rfl
theorem qK_sA (h : Hp) (f a : Nat) (x : Int32) : hK (sA h f a x) = hK h := Eq.trans rfl rfl
theorem qN_sA (h : Hp) (f a : Nat) (x : Int32) : hN (sA h f a x) = hN h := Eq.trans rfl rfl
theorem qI_sA (h : Hp) (f a : Nat) (x : Int32) : hI (sA h f a x) = hI h := Eq.trans rfl rfl
theorem qR_sA (h : Hp) (f a : Nat) (x : Int32) : hR (sA h f a x) = hR h := Eq.trans rfl rfl
theorem qA_sA (h : Hp) (f a : Nat) (x : Int32) (j b : Nat) : hA (sA h f a x) j b = if j = f ∧ b = a then x else hA h j b := Eq.trans rfl rfl
theorem qQ_sA (h : Hp) (f a : Nat) (x : Int32) : hQ (sA h f a x) = hQ h := Eq.trans rfl rfl
theorem qL_sA (h : Hp) (f a : Nat) (x : Int32) : hL (sA h f a x) = hL h := Eq.trans rfl rfl
theorem qT_sQ (h : Hp) (f a : Nat) (x : Option Nat) : hT (sQ h f a x) = hT h := Eq.trans rfl rfl
theorem qU_sQ (h : Hp) (f a : Nat) (x : Option Nat) : hU (sQ h f a x) = hU h := Eq.trans rfl rfl
theorem qK_sQ (h : Hp) (f a : Nat) (x : Option Nat) : hK (sQ h f a x) = hK h := Eq.trans rfl rfl
theorem qN_sQ (h : Hp) (f a : Nat) (x : Option Nat) : hN (sQ h f a x) = hN h := Eq.trans rfl rfl
theorem qI_sQ (h : Hp) (f a : Nat) (x : Option Nat) : hI (sQ h f a x) = hI h := Eq.trans rfl rfl
theorem qR_sQ (h : Hp) (f a : Nat) (x : Option Nat) : hR (sQ h f a x) = hR h := Eq.trans rfl rfl
theorem qA_sQ (h : Hp) (f a : Nat) (x : Option Nat) : hA (sQ h f a x) = hA h := Eq.trans rfl rfl
theorem qQ_sQ (h : Hp) (f a : Nat) (x : Option Nat) (j b : Nat) : hQ (sQ h f a x) j b = if j = f ∧ b = a then x else hQ h j b := Eq.trans rfl rfl
theorem qL_sQ (h : Hp) (f a : Nat) (x : Option Nat) : hL (sQ h f a x) = hL h := Eq.trans rfl rfl
theorem qT_sL (h : Hp) (f a : Nat) (x : Int64) : hT (sL h f a x) = hT h := Eq.trans rfl rfl
theorem qU_sL (h : Hp) (f a : Nat) (x : Int64) : hU (sL h f a x) = hU h := Eq.trans rfl rfl
theorem qK_sL (h : Hp) (f a : Nat) (x : Int64) : hK (sL h f a x) = hK h := Eq.trans rfl rfl
theorem qN_sL (h : Hp) (f a : Nat) (x : Int64) : hN (sL h f a x) = hN h := Eq.trans rfl rfl
theorem qI_sL (h : Hp) (f a : Nat) (x : Int64) : hI (sL h f a x) = hI h := Eq.trans rfl rfl
theorem qR_sL (h : Hp) (f a : Nat) (x : Int64) : hR (sL h f a x) = hR h := Eq.trans rfl rfl
theorem qA_sL (h : Hp) (f a : Nat) (x : Int64) : hA (sL h f a x) = hA h := Eq.trans rfl rfl
theorem qQ_sL (h : Hp) (f a : Nat) (x : Int64) : hQ (sL h f a x) = hQ h := Eq.trans rfl rfl
theorem qL_sL (h : Hp) (f a : Nat) (x : Int64) (j b : Nat) : hL (sL h f a x) j b = if j = f ∧ b = a then x else hL h j b := Eq.trans rfl rfl
theorem qT_nw (h : Hp) (kd n u : Nat) : hT (nw h kd n u) = hT h + 1 := Eq.trans rfl rfl
theorem qU_nw (h : Hp) (kd n u : Nat) : hU (nw h kd n u) = hU h + u := Eq.trans rfl rfl
theorem qK_nw (h : Hp) (kd n u a : Nat) : hK (nw h kd n u) a = if a = hT h then kd else hK h a := Eq.trans rfl rfl
theorem qN_nw (h : Hp) (kd n u a : Nat) : hN (nw h kd n u) a = if a = hT h then n else hN h a := Eq.trans rfl rfl
theorem qI_nw (h : Hp) (kd n u f a : Nat) : hI (nw h kd n u) f a = if a = hT h then 0 else hI h f a := Eq.trans rfl rfl
theorem qR_nw (h : Hp) (kd n u f a : Nat) : hR (nw h kd n u) f a = if a = hT h then none else hR h f a := Eq.trans rfl rfl
theorem qA_nw (h : Hp) (kd n u a i : Nat) : hA (nw h kd n u) a i = if a = hT h then 0 else hA h a i := Eq.trans rfl rfl
theorem qQ_nw (h : Hp) (kd n u a i : Nat) : hQ (nw h kd n u) a i = if a = hT h then none else hQ h a i := Eq.trans rfl rfl
theorem qL_nw (h : Hp) (kd n u a i : Nat) : hL (nw h kd n u) a i = if a = hT h then 0 else hL h a i := Eq.trans rfl rfl
theorem gd_t {α : Type} {c : Prop} [Decidable c] {k : Option α} (h : c) : gd c k = k := if_pos h
theorem rq_some {β : Type} {h : Hp} {a K : Nat} {k : Nat → Option β} (e : hK h a = K) : rq h (some a) K k = k a := if_pos e
theorem rq_i {β : Type} {h : Hp} {a K : Nat} {k : Nat → Option β} : rq h (some a) K k = if hK h a = K then k a else none := rfl
theorem rq_k {β : Type} {h : Hp} {o : Option Nat} {a K : Nat} {k : Nat → Option β} (o1 : o = some a) (e : hK h a = K) : rq h o K k = k a := by subst o1; exact if_pos e
theorem nu_none {β : Type} {A : Option β} {B : Nat → Option β} : nu none A B = A := rfl
theorem nu_some {β : Type} {a : Nat} {A : Option β} {B : Nat → Option β} : nu (some a) A B = B a := rfl
theorem cl_some {α β : Type} {v : α} {h : Hp} {k : α → Hp → Option β} : cl (some (v, h)) k = k v h := rfl
theorem clv_some {β : Type} {h : Hp} {k : Hp → Option β} : clv (some h) k = k h := rfl
theorem ixn {β : Type} {j n : Nat} {k : Nat → Option β} (h : j < n) (hn : n < 2 ^ 31) : ix (nI j) n k = k j := by
  unfold ix
  rw [if_neg (nI_in h hn), nI_clamp (by omega)]
theorem ixv {β : Type} {i : Int32} {n : Nat} {k : Nat → Option β} (h : vp_in i n) : ix i n k = k i.toNatClampNeg := if_neg h
theorem n_4 (a : Nat) : (4 : Int32) * nI a = nI (4 * a) := pk_mul 4 a
theorem n_8 (a : Nat) : (8 : Int32) * nI a = nI (8 * a) := pk_mul 8 a
theorem n_16 (a : Nat) : (16 : Int32) * nI a = nI (16 * a) := pk_mul 16 a
theorem n_20 (a : Nat) : (20 : Int32) * nI a = nI (20 * a) := pk_mul 20 a
theorem n_32 (a : Nat) : (32 : Int32) * nI a = nI (32 * a) := pk_mul 32 a
theorem n_64 (a : Nat) : (64 : Int32) * nI a = nI (64 * a) := pk_mul 64 a
theorem n_128 (a : Nat) : (128 : Int32) * nI a = nI (128 * a) := pk_mul 128 a
/-- the int places of a heap, all anew -/
def oA (h : Hp) (g : Nat → Nat → Int32) : Hp := (hT h, hU h, hK h, hN h, hI h, hR h, g, hQ h, hL h)
theorem qT_oA (h : Hp) (g : Nat → Nat → Int32) : hT (oA h g) = hT h := Eq.trans rfl rfl
theorem qU_oA (h : Hp) (g : Nat → Nat → Int32) : hU (oA h g) = hU h := Eq.trans rfl rfl
theorem qK_oA (h : Hp) (g : Nat → Nat → Int32) : hK (oA h g) = hK h := Eq.trans rfl rfl
theorem qN_oA (h : Hp) (g : Nat → Nat → Int32) : hN (oA h g) = hN h := Eq.trans rfl rfl
theorem qI_oA (h : Hp) (g : Nat → Nat → Int32) : hI (oA h g) = hI h := Eq.trans rfl rfl
theorem qR_oA (h : Hp) (g : Nat → Nat → Int32) : hR (oA h g) = hR h := Eq.trans rfl rfl
theorem qA_oA (h : Hp) (g : Nat → Nat → Int32) : hA (oA h g) = g := Eq.trans rfl rfl
theorem qQ_oA (h : Hp) (g : Nat → Nat → Int32) : hQ (oA h g) = hQ h := Eq.trans rfl rfl
theorem qL_oA (h : Hp) (g : Nat → Nat → Int32) : hL (oA h g) = hL h := Eq.trans rfl rfl
theorem oA_self (h : Hp) : oA h (hA h) = h := rfl
theorem oA_oA (h : Hp) (g k : Nat → Nat → Int32) : oA (oA h g) k = oA h k := rfl
theorem sA_oA (h : Hp) (g : Nat → Nat → Int32) (a j : Nat) (v : Int32) : sA (oA h g) a j v = oA h (up2 g a j v) := rfl
theorem sA_is (h : Hp) (a j : Nat) (v : Int32) : sA h a j v = oA h (up2 (hA h) a j v) := rfl
theorem oA_eq {h : Hp} {g k : Nat → Nat → Int32} (e : ∀ a j, g a j = k a j) : oA h g = oA h k := by rw [show g = k from funext fun a => funext fun j => e a j]
/-- places lo .. of the array a from a function -/
def fa (g : Nat → Nat → Int32) (a n : Nat) (f : Nat → Int32) : Nat → Nat → Int32 := fun b j => if b = a ∧ j < n then f j else g b j
theorem fa_at (g : Nat → Nat → Int32) (a n : Nat) (f : Nat → Int32) (b j : Nat) : fa g a n f b j = if b = a ∧ j < n then f j else g b j := rfl
theorem fa_0 (g : Nat → Nat → Int32) (a : Nat) (f : Nat → Int32) : fa g a 0 f = g := by funext b j; simp [fa]
theorem fa_up (g : Nat → Nat → Int32) (a n : Nat) (f : Nat → Int32) : up2 (fa g a n f) a n (f n) = fa g a (n + 1) f := by
  funext b j
  unfold up2 fa
  by_cases hb : b = a
  · by_cases hj : j = n
    · subst hj; simp [hb]
    · simp [hb, hj]
      by_cases hl : j < n
      · rw [if_pos hl, if_pos (by omega)]
      · rw [if_neg hl, if_neg (by omega)]
  · simp [hb]
theorem fa_o {g : Nat → Nat → Int32} {a n b j : Nat} {f : Nat → Int32} (h : ¬ b = a) : fa g a n f b j = g b j := if_neg (fun q => h q.1)
theorem fa_i {g : Nat → Nat → Int32} {a n j : Nat} {f : Nat → Int32} (h : j < n) : fa g a n f a j = f j := if_pos ⟨rfl, h⟩
/-- a loop in even steps -/
theorem iter {β : Type} (b : Nat → Nat → β) (N : Nat) (H : ∀ i n, i < N → b (n + 1) i = b n (i + 1)) : ∀ n, b (N + n) 0 = b n N := by
  have key : ∀ k i, i + k = N → ∀ n, b (k + n) i = b n N := by
    intro k
    induction k with
    | zero => intro i hi n; rw [show i = N by omega, Nat.zero_add]
    | succ k ih =>
      intro i hi n
      rw [show k + 1 + n = (k + n) + 1 by omega, H i (k + n) (by omega)]
      exact ih (i + 1) (by omega) n
  exact fun n => key N 0 (by omega) n
theorem iterF {β : Type} (b : Nat → Nat → β) (N : Nat) (H : ∀ i n, i < N → b (n + 1) i = b n (i + 1)) {F : Nat} (hF : N < F) : b F 0 = b (F - N - 1 + 1) N := by
  have := iter b N H (F - N)
  rw [show N + (F - N) = F by omega] at this
  rw [this]
  congr 1
  omega
theorem i_0 : nI 0 = 0 := nI_0
theorem bI_ite {α : Type} {p : Prop} [Decidable p] {a b : α} : (if bI p = 0 then a else b) = if p then b else a := by
  unfold bI
  by_cases h : p
  · simp [h]
  · simp [h]
/-- the reference's object and its arrays -/
def Md (h : Hp) (m : Nat) : Prop := hK h m = 12 ∧ (hR h 711 m = some (m + 1) ∧ hK h (m + 1) = 110 ∧ hN h (m + 1) = 128) ∧ (hR h 712 m = some (m + 2) ∧ hK h (m + 2) = 100 ∧ hN h (m + 2) = 4096) ∧ (hR h 713 m = some (m + 3) ∧ hK h (m + 3) = 100 ∧ hN h (m + 3) = 32) ∧ (hR h 714 m = some (m + 4) ∧ hK h (m + 4) = 100 ∧ hN h (m + 4) = 8) ∧ (hR h 731 m = some (m + 5) ∧ hK h (m + 5) = 100 ∧ hN h (m + 5) = 8) ∧ (hR h 732 m = some (m + 6) ∧ hK h (m + 6) = 100 ∧ hN h (m + 6) = 8) ∧ (hR h 733 m = some (m + 7) ∧ hK h (m + 7) = 100 ∧ hN h (m + 7) = 8) ∧ (hR h 734 m = some (m + 8) ∧ hK h (m + 8) = 100 ∧ hN h (m + 8) = 8) ∧ (hR h 735 m = some (m + 9) ∧ hK h (m + 9) = 100 ∧ hN h (m + 9) = 128) ∧ (hR h 736 m = some (m + 10) ∧ hK h (m + 10) = 100 ∧ hN h (m + 10) = 128) ∧ (hR h 737 m = some (m + 11) ∧ hK h (m + 11) = 100 ∧ hN h (m + 11) = 128) ∧ (hR h 738 m = some (m + 12) ∧ hK h (m + 12) = 100 ∧ hN h (m + 12) = 2560) ∧ (hR h 739 m = some (m + 13) ∧ hK h (m + 13) = 100 ∧ hN h (m + 13) = 65536) ∧ (hR h 740 m = some (m + 14) ∧ hK h (m + 14) = 100 ∧ hN h (m + 14) = 4096) ∧ (hR h 741 m = some (m + 15) ∧ hK h (m + 15) = 100 ∧ hN h (m + 15) = 4096) ∧ (hR h 742 m = some (m + 16) ∧ hK h (m + 16) = 101 ∧ hN h (m + 16) = 4096) ∧ (hR h 743 m = some (m + 17) ∧ hK h (m + 17) = 101 ∧ hN h (m + 17) = 4096) ∧ (hR h 744 m = some (m + 18) ∧ hK h (m + 18) = 100 ∧ hN h (m + 18) = 4096) ∧ (hR h 747 m = some (m + 19) ∧ hK h (m + 19) = 100 ∧ hN h (m + 19) = 32768) ∧ (hR h 748 m = some (m + 20) ∧ hK h (m + 20) = 100 ∧ hN h (m + 20) = 32768) ∧ (hR h 749 m = some (m + 21) ∧ hK h (m + 21) = 100 ∧ hN h (m + 21) = 32768) ∧ (hR h 750 m = some (m + 22) ∧ hK h (m + 22) = 100 ∧ hN h (m + 22) = 32768) ∧ (hR h 751 m = some (m + 23) ∧ hK h (m + 23) = 100 ∧ hN h (m + 23) = 32768) ∧ (hR h 752 m = some (m + 24) ∧ hK h (m + 24) = 100 ∧ hN h (m + 24) = 32768) ∧ (hR h 753 m = some (m + 25) ∧ hK h (m + 25) = 100 ∧ hN h (m + 25) = 32) ∧ (hR h 754 m = some (m + 26) ∧ hK h (m + 26) = 101 ∧ hN h (m + 26) = 32) ∧ (hR h 755 m = some (m + 27) ∧ hK h (m + 27) = 101 ∧ hN h (m + 27) = 32) ∧ (hR h 763 m = some (m + 28) ∧ hK h (m + 28) = 100 ∧ hN h (m + 28) = 32)
theorem Md.k {h : Hp} {m : Nat} (M : Md h m) : hK h m = 12 := M.1
theorem Md.r_kernel {h : Hp} {m : Nat} (M : Md h m) : hR h 711 m = some (m + 1) := M.2.1.1
theorem Md.k_kernel {h : Hp} {m : Nat} (M : Md h m) : hK h (m + 1) = 110 := M.2.1.2.1
theorem Md.n_kernel {h : Hp} {m : Nat} (M : Md h m) : hN h (m + 1) = 128 := M.2.1.2.2
theorem Md.r_memory {h : Hp} {m : Nat} (M : Md h m) : hR h 712 m = some (m + 2) := M.2.2.1.1
theorem Md.k_memory {h : Hp} {m : Nat} (M : Md h m) : hK h (m + 2) = 100 := M.2.2.1.2.1
theorem Md.n_memory {h : Hp} {m : Nat} (M : Md h m) : hN h (m + 2) = 4096 := M.2.2.1.2.2
theorem Md.r_cache {h : Hp} {m : Nat} (M : Md h m) : hR h 713 m = some (m + 3) := M.2.2.2.1.1
theorem Md.k_cache {h : Hp} {m : Nat} (M : Md h m) : hK h (m + 3) = 100 := M.2.2.2.1.2.1
theorem Md.n_cache {h : Hp} {m : Nat} (M : Md h m) : hN h (m + 3) = 32 := M.2.2.2.1.2.2
theorem Md.r_gateTick {h : Hp} {m : Nat} (M : Md h m) : hR h 714 m = some (m + 4) := M.2.2.2.2.1.1
theorem Md.k_gateTick {h : Hp} {m : Nat} (M : Md h m) : hK h (m + 4) = 100 := M.2.2.2.2.1.2.1
theorem Md.n_gateTick {h : Hp} {m : Nat} (M : Md h m) : hN h (m + 4) = 8 := M.2.2.2.2.1.2.2
theorem Md.r_divider {h : Hp} {m : Nat} (M : Md h m) : hR h 731 m = some (m + 5) := M.2.2.2.2.2.1.1
theorem Md.k_divider {h : Hp} {m : Nat} (M : Md h m) : hK h (m + 5) = 100 := M.2.2.2.2.2.1.2.1
theorem Md.n_divider {h : Hp} {m : Nat} (M : Md h m) : hN h (m + 5) = 8 := M.2.2.2.2.2.1.2.2
theorem Md.r_sharedTick {h : Hp} {m : Nat} (M : Md h m) : hR h 732 m = some (m + 6) := M.2.2.2.2.2.2.1.1
theorem Md.k_sharedTick {h : Hp} {m : Nat} (M : Md h m) : hK h (m + 6) = 100 := M.2.2.2.2.2.2.1.2.1
theorem Md.n_sharedTick {h : Hp} {m : Nat} (M : Md h m) : hN h (m + 6) = 8 := M.2.2.2.2.2.2.1.2.2
theorem Md.r_latest {h : Hp} {m : Nat} (M : Md h m) : hR h 733 m = some (m + 7) := M.2.2.2.2.2.2.2.1.1
theorem Md.k_latest {h : Hp} {m : Nat} (M : Md h m) : hK h (m + 7) = 100 := M.2.2.2.2.2.2.2.1.2.1
theorem Md.n_latest {h : Hp} {m : Nat} (M : Md h m) : hN h (m + 7) = 8 := M.2.2.2.2.2.2.2.1.2.2
theorem Md.r_unitWords {h : Hp} {m : Nat} (M : Md h m) : hR h 734 m = some (m + 8) := M.2.2.2.2.2.2.2.2.1.1
theorem Md.k_unitWords {h : Hp} {m : Nat} (M : Md h m) : hK h (m + 8) = 100 := M.2.2.2.2.2.2.2.2.1.2.1
theorem Md.n_unitWords {h : Hp} {m : Nat} (M : Md h m) : hN h (m + 8) = 8 := M.2.2.2.2.2.2.2.2.1.2.2
theorem Md.r_slotBlock {h : Hp} {m : Nat} (M : Md h m) : hR h 735 m = some (m + 9) := M.2.2.2.2.2.2.2.2.2.1.1
theorem Md.k_slotBlock {h : Hp} {m : Nat} (M : Md h m) : hK h (m + 9) = 100 := M.2.2.2.2.2.2.2.2.2.1.2.1
theorem Md.n_slotBlock {h : Hp} {m : Nat} (M : Md h m) : hN h (m + 9) = 128 := M.2.2.2.2.2.2.2.2.2.1.2.2
theorem Md.r_slotWarp {h : Hp} {m : Nat} (M : Md h m) : hR h 736 m = some (m + 10) := M.2.2.2.2.2.2.2.2.2.2.1.1
theorem Md.k_slotWarp {h : Hp} {m : Nat} (M : Md h m) : hK h (m + 10) = 100 := M.2.2.2.2.2.2.2.2.2.2.1.2.1
theorem Md.n_slotWarp {h : Hp} {m : Nat} (M : Md h m) : hN h (m + 10) = 128 := M.2.2.2.2.2.2.2.2.2.2.1.2.2
theorem Md.r_memoryTick {h : Hp} {m : Nat} (M : Md h m) : hR h 737 m = some (m + 11) := M.2.2.2.2.2.2.2.2.2.2.2.1.1
theorem Md.k_memoryTick {h : Hp} {m : Nat} (M : Md h m) : hK h (m + 11) = 100 := M.2.2.2.2.2.2.2.2.2.2.2.1.2.1
theorem Md.n_memoryTick {h : Hp} {m : Nat} (M : Md h m) : hN h (m + 11) = 128 := M.2.2.2.2.2.2.2.2.2.2.2.1.2.2
theorem Md.r_ticks {h : Hp} {m : Nat} (M : Md h m) : hR h 738 m = some (m + 12) := M.2.2.2.2.2.2.2.2.2.2.2.2.1.1
theorem Md.k_ticks {h : Hp} {m : Nat} (M : Md h m) : hK h (m + 12) = 100 := M.2.2.2.2.2.2.2.2.2.2.2.2.1.2.1
theorem Md.n_ticks {h : Hp} {m : Nat} (M : Md h m) : hN h (m + 12) = 2560 := M.2.2.2.2.2.2.2.2.2.2.2.2.1.2.2
theorem Md.r_register {h : Hp} {m : Nat} (M : Md h m) : hR h 739 m = some (m + 13) := M.2.2.2.2.2.2.2.2.2.2.2.2.2.1.1
theorem Md.k_register {h : Hp} {m : Nat} (M : Md h m) : hK h (m + 13) = 100 := M.2.2.2.2.2.2.2.2.2.2.2.2.2.1.2.1
theorem Md.n_register {h : Hp} {m : Nat} (M : Md h m) : hN h (m + 13) = 65536 := M.2.2.2.2.2.2.2.2.2.2.2.2.2.1.2.2
theorem Md.r_predicate {h : Hp} {m : Nat} (M : Md h m) : hR h 740 m = some (m + 14) := M.2.2.2.2.2.2.2.2.2.2.2.2.2.2.1.1
theorem Md.k_predicate {h : Hp} {m : Nat} (M : Md h m) : hK h (m + 14) = 100 := M.2.2.2.2.2.2.2.2.2.2.2.2.2.2.1.2.1
theorem Md.n_predicate {h : Hp} {m : Nat} (M : Md h m) : hN h (m + 14) = 4096 := M.2.2.2.2.2.2.2.2.2.2.2.2.2.2.1.2.2
theorem Md.r_place {h : Hp} {m : Nat} (M : Md h m) : hR h 741 m = some (m + 15) := M.2.2.2.2.2.2.2.2.2.2.2.2.2.2.2.1.1
theorem Md.k_place {h : Hp} {m : Nat} (M : Md h m) : hK h (m + 15) = 100 := M.2.2.2.2.2.2.2.2.2.2.2.2.2.2.2.1.2.1
theorem Md.n_place {h : Hp} {m : Nat} (M : Md h m) : hN h (m + 15) = 4096 := M.2.2.2.2.2.2.2.2.2.2.2.2.2.2.2.1.2.2
theorem Md.r_isEnded {h : Hp} {m : Nat} (M : Md h m) : hR h 742 m = some (m + 16) := M.2.2.2.2.2.2.2.2.2.2.2.2.2.2.2.2.1.1
theorem Md.k_isEnded {h : Hp} {m : Nat} (M : Md h m) : hK h (m + 16) = 101 := M.2.2.2.2.2.2.2.2.2.2.2.2.2.2.2.2.1.2.1
theorem Md.n_isEnded {h : Hp} {m : Nat} (M : Md h m) : hN h (m + 16) = 4096 := M.2.2.2.2.2.2.2.2.2.2.2.2.2.2.2.2.1.2.2
theorem Md.r_waits {h : Hp} {m : Nat} (M : Md h m) : hR h 743 m = some (m + 17) := M.2.2.2.2.2.2.2.2.2.2.2.2.2.2.2.2.2.1.1
theorem Md.k_waits {h : Hp} {m : Nat} (M : Md h m) : hK h (m + 17) = 101 := M.2.2.2.2.2.2.2.2.2.2.2.2.2.2.2.2.2.1.2.1
theorem Md.n_waits {h : Hp} {m : Nat} (M : Md h m) : hN h (m + 17) = 4096 := M.2.2.2.2.2.2.2.2.2.2.2.2.2.2.2.2.2.1.2.2
theorem Md.r_shared {h : Hp} {m : Nat} (M : Md h m) : hR h 744 m = some (m + 18) := M.2.2.2.2.2.2.2.2.2.2.2.2.2.2.2.2.2.2.1.1
theorem Md.k_shared {h : Hp} {m : Nat} (M : Md h m) : hK h (m + 18) = 100 := M.2.2.2.2.2.2.2.2.2.2.2.2.2.2.2.2.2.2.1.2.1
theorem Md.n_shared {h : Hp} {m : Nat} (M : Md h m) : hN h (m + 18) = 4096 := M.2.2.2.2.2.2.2.2.2.2.2.2.2.2.2.2.2.2.1.2.2
theorem Md.r_when {h : Hp} {m : Nat} (M : Md h m) : hR h 747 m = some (m + 19) := M.2.2.2.2.2.2.2.2.2.2.2.2.2.2.2.2.2.2.2.1.1
theorem Md.k_when {h : Hp} {m : Nat} (M : Md h m) : hK h (m + 19) = 100 := M.2.2.2.2.2.2.2.2.2.2.2.2.2.2.2.2.2.2.2.1.2.1
theorem Md.n_when {h : Hp} {m : Nat} (M : Md h m) : hN h (m + 19) = 32768 := M.2.2.2.2.2.2.2.2.2.2.2.2.2.2.2.2.2.2.2.1.2.2
theorem Md.r_who {h : Hp} {m : Nat} (M : Md h m) : hR h 748 m = some (m + 20) := M.2.2.2.2.2.2.2.2.2.2.2.2.2.2.2.2.2.2.2.2.1.1
theorem Md.k_who {h : Hp} {m : Nat} (M : Md h m) : hK h (m + 20) = 100 := M.2.2.2.2.2.2.2.2.2.2.2.2.2.2.2.2.2.2.2.2.1.2.1
theorem Md.n_who {h : Hp} {m : Nat} (M : Md h m) : hN h (m + 20) = 32768 := M.2.2.2.2.2.2.2.2.2.2.2.2.2.2.2.2.2.2.2.2.1.2.2
theorem Md.r_what {h : Hp} {m : Nat} (M : Md h m) : hR h 749 m = some (m + 21) := M.2.2.2.2.2.2.2.2.2.2.2.2.2.2.2.2.2.2.2.2.2.1.1
theorem Md.k_what {h : Hp} {m : Nat} (M : Md h m) : hK h (m + 21) = 100 := M.2.2.2.2.2.2.2.2.2.2.2.2.2.2.2.2.2.2.2.2.2.1.2.1
theorem Md.n_what {h : Hp} {m : Nat} (M : Md h m) : hN h (m + 21) = 32768 := M.2.2.2.2.2.2.2.2.2.2.2.2.2.2.2.2.2.2.2.2.2.1.2.2
theorem Md.r_where {h : Hp} {m : Nat} (M : Md h m) : hR h 750 m = some (m + 22) := M.2.2.2.2.2.2.2.2.2.2.2.2.2.2.2.2.2.2.2.2.2.2.1.1
theorem Md.k_where {h : Hp} {m : Nat} (M : Md h m) : hK h (m + 22) = 100 := M.2.2.2.2.2.2.2.2.2.2.2.2.2.2.2.2.2.2.2.2.2.2.1.2.1
theorem Md.n_where {h : Hp} {m : Nat} (M : Md h m) : hN h (m + 22) = 32768 := M.2.2.2.2.2.2.2.2.2.2.2.2.2.2.2.2.2.2.2.2.2.2.1.2.2
theorem Md.r_with {h : Hp} {m : Nat} (M : Md h m) : hR h 751 m = some (m + 23) := M.2.2.2.2.2.2.2.2.2.2.2.2.2.2.2.2.2.2.2.2.2.2.2.1.1
theorem Md.k_with {h : Hp} {m : Nat} (M : Md h m) : hK h (m + 23) = 100 := M.2.2.2.2.2.2.2.2.2.2.2.2.2.2.2.2.2.2.2.2.2.2.2.1.2.1
theorem Md.n_with {h : Hp} {m : Nat} (M : Md h m) : hN h (m + 23) = 32768 := M.2.2.2.2.2.2.2.2.2.2.2.2.2.2.2.2.2.2.2.2.2.2.2.1.2.2
theorem Md.r_old {h : Hp} {m : Nat} (M : Md h m) : hR h 752 m = some (m + 24) := M.2.2.2.2.2.2.2.2.2.2.2.2.2.2.2.2.2.2.2.2.2.2.2.2.1.1
theorem Md.k_old {h : Hp} {m : Nat} (M : Md h m) : hK h (m + 24) = 100 := M.2.2.2.2.2.2.2.2.2.2.2.2.2.2.2.2.2.2.2.2.2.2.2.2.1.2.1
theorem Md.n_old {h : Hp} {m : Nat} (M : Md h m) : hN h (m + 24) = 32768 := M.2.2.2.2.2.2.2.2.2.2.2.2.2.2.2.2.2.2.2.2.2.2.2.2.1.2.2
theorem Md.r_doneAt {h : Hp} {m : Nat} (M : Md h m) : hR h 753 m = some (m + 25) := M.2.2.2.2.2.2.2.2.2.2.2.2.2.2.2.2.2.2.2.2.2.2.2.2.2.1.1
theorem Md.k_doneAt {h : Hp} {m : Nat} (M : Md h m) : hK h (m + 25) = 100 := M.2.2.2.2.2.2.2.2.2.2.2.2.2.2.2.2.2.2.2.2.2.2.2.2.2.1.2.1
theorem Md.n_doneAt {h : Hp} {m : Nat} (M : Md h m) : hN h (m + 25) = 32 := M.2.2.2.2.2.2.2.2.2.2.2.2.2.2.2.2.2.2.2.2.2.2.2.2.2.1.2.2
theorem Md.r_inGroup {h : Hp} {m : Nat} (M : Md h m) : hR h 754 m = some (m + 26) := M.2.2.2.2.2.2.2.2.2.2.2.2.2.2.2.2.2.2.2.2.2.2.2.2.2.2.1.1
theorem Md.k_inGroup {h : Hp} {m : Nat} (M : Md h m) : hK h (m + 26) = 101 := M.2.2.2.2.2.2.2.2.2.2.2.2.2.2.2.2.2.2.2.2.2.2.2.2.2.2.1.2.1
theorem Md.n_inGroup {h : Hp} {m : Nat} (M : Md h m) : hN h (m + 26) = 32 := M.2.2.2.2.2.2.2.2.2.2.2.2.2.2.2.2.2.2.2.2.2.2.2.2.2.2.1.2.2
theorem Md.r_does {h : Hp} {m : Nat} (M : Md h m) : hR h 755 m = some (m + 27) := M.2.2.2.2.2.2.2.2.2.2.2.2.2.2.2.2.2.2.2.2.2.2.2.2.2.2.2.1.1
theorem Md.k_does {h : Hp} {m : Nat} (M : Md h m) : hK h (m + 27) = 101 := M.2.2.2.2.2.2.2.2.2.2.2.2.2.2.2.2.2.2.2.2.2.2.2.2.2.2.2.1.2.1
theorem Md.n_does {h : Hp} {m : Nat} (M : Md h m) : hN h (m + 27) = 32 := M.2.2.2.2.2.2.2.2.2.2.2.2.2.2.2.2.2.2.2.2.2.2.2.2.2.2.2.1.2.2
theorem Md.r_had {h : Hp} {m : Nat} (M : Md h m) : hR h 763 m = some (m + 28) := M.2.2.2.2.2.2.2.2.2.2.2.2.2.2.2.2.2.2.2.2.2.2.2.2.2.2.2.2.1
theorem Md.k_had {h : Hp} {m : Nat} (M : Md h m) : hK h (m + 28) = 100 := M.2.2.2.2.2.2.2.2.2.2.2.2.2.2.2.2.2.2.2.2.2.2.2.2.2.2.2.2.2.1
theorem Md.n_had {h : Hp} {m : Nat} (M : Md h m) : hN h (m + 28) = 32 := M.2.2.2.2.2.2.2.2.2.2.2.2.2.2.2.2.2.2.2.2.2.2.2.2.2.2.2.2.2.2
theorem Md.same {h h2 : Hp} {m : Nat} (M : Md h m) (eK : hK h2 = hK h) (eN : hN h2 = hN h) (eR : hR h2 = hR h) : Md h2 m := by unfold Md at *; rw [eK, eN, eR]; exact M
theorem Md.tsI {h : Hp} {m f a : Nat} {x : Int32} (M : Md h m) : Md (sI h f a x) m := M.same rfl rfl rfl
theorem Md.tsA {h : Hp} {m f a : Nat} {x : Int32} (M : Md h m) : Md (sA h f a x) m := M.same rfl rfl rfl
theorem Md.tsL {h : Hp} {m f a : Nat} {x : Int64} (M : Md h m) : Md (sL h f a x) m := M.same rfl rfl rfl
theorem Md.toA {h : Hp} {m : Nat} {g : Nat → Nat → Int32} (M : Md h m) : Md (oA h g) m := M.same rfl rfl rfl
