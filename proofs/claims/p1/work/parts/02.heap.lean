/-! the pure heap: next address, slots used, kinds, lengths, int fields, reference fields, int places, reference places, long places -/
abbrev Hp : Type := Nat × Nat × (Nat → Nat) × (Nat → Nat) × (Nat → Nat → Int32) × (Nat → Nat → Option Nat) × (Nat → Nat → Int32) × (Nat → Nat → Option Nat) × (Nat → Nat → Int64)
def hT (h : Hp) : Nat := h.1
def hU (h : Hp) : Nat := h.2.1
def hK (h : Hp) : Nat → Nat := h.2.2.1
def hN (h : Hp) : Nat → Nat := h.2.2.2.1
def hI (h : Hp) : Nat → Nat → Int32 := h.2.2.2.2.1
def hR (h : Hp) : Nat → Nat → Option Nat := h.2.2.2.2.2.1
def hA (h : Hp) : Nat → Nat → Int32 := h.2.2.2.2.2.2.1
def hQ (h : Hp) : Nat → Nat → Option Nat := h.2.2.2.2.2.2.2.1
def hL (h : Hp) : Nat → Nat → Int64 := h.2.2.2.2.2.2.2.2
def up2 {α : Type} (f : Nat → Nat → α) (i a : Nat) (x : α) : Nat → Nat → α := fun j b => if j = i ∧ b = a then x else f j b
theorem up2_at {α : Type} (f : Nat → Nat → α) (i a : Nat) (x : α) (j b : Nat) : up2 f i a x j b = if j = i ∧ b = a then x else f j b := rfl
def sI (h : Hp) (f a : Nat) (x : Int32) : Hp := (hT h, hU h, hK h, hN h, up2 (hI h) f a x, hR h, hA h, hQ h, hL h)
def sR (h : Hp) (f a : Nat) (x : Option Nat) : Hp := (hT h, hU h, hK h, hN h, hI h, up2 (hR h) f a x, hA h, hQ h, hL h)
def sA (h : Hp) (f a : Nat) (x : Int32) : Hp := (hT h, hU h, hK h, hN h, hI h, hR h, up2 (hA h) f a x, hQ h, hL h)
def sQ (h : Hp) (f a : Nat) (x : Option Nat) : Hp := (hT h, hU h, hK h, hN h, hI h, hR h, hA h, up2 (hQ h) f a x, hL h)
def sL (h : Hp) (f a : Nat) (x : Int64) : Hp := (hT h, hU h, hK h, hN h, hI h, hR h, hA h, hQ h, up2 (hL h) f a x)
def nw (h : Hp) (kd n u : Nat) : Hp := (hT h + 1, hU h + u, va_up (hK h) (hT h) kd, va_up (hN h) (hT h) n, (fun f a => if a = hT h then 0 else hI h f a), (fun f a => if a = hT h then none else hR h f a), (fun a i => if a = hT h then 0 else hA h a i), (fun a i => if a = hT h then none else hQ h a i), (fun a i => if a = hT h then 0 else hL h a i))
theorem hT_sI (h : Hp) (f a : Nat) (x : Int32) : hT (sI h f a x) = hT h := rfl
theorem hU_sI (h : Hp) (f a : Nat) (x : Int32) : hU (sI h f a x) = hU h := rfl
theorem hK_sI (h : Hp) (f a : Nat) (x : Int32) : hK (sI h f a x) = hK h := rfl
theorem hN_sI (h : Hp) (f a : Nat) (x : Int32) : hN (sI h f a x) = hN h := rfl
theorem hI_sI (h : Hp) (f a : Nat) (x : Int32) (j b : Nat) : hI (sI h f a x) j b = if j = f ∧ b = a then x else hI h j b := rfl
theorem hR_sI (h : Hp) (f a : Nat) (x : Int32) : hR (sI h f a x) = hR h := rfl
theorem hA_sI (h : Hp) (f a : Nat) (x : Int32) : hA (sI h f a x) = hA h := rfl
theorem hQ_sI (h : Hp) (f a : Nat) (x : Int32) : hQ (sI h f a x) = hQ h := rfl
theorem hL_sI (h : Hp) (f a : Nat) (x : Int32) : hL (sI h f a x) = hL h := rfl
theorem hT_sR (h : Hp) (f a : Nat) (x : Option Nat) : hT (sR h f a x) = hT h := rfl
theorem hU_sR (h : Hp) (f a : Nat) (x : Option Nat) : hU (sR h f a x) = hU h := rfl
theorem hK_sR (h : Hp) (f a : Nat) (x : Option Nat) : hK (sR h f a x) = hK h := rfl
theorem hN_sR (h : Hp) (f a : Nat) (x : Option Nat) : hN (sR h f a x) = hN h := rfl
theorem hI_sR (h : Hp) (f a : Nat) (x : Option Nat) : hI (sR h f a x) = hI h := rfl
theorem hR_sR (h : Hp) (f a : Nat) (x : Option Nat) (j b : Nat) : hR (sR h f a x) j b = if j = f ∧ b = a then x else hR h j b := rfl
theorem hA_sR (h : Hp) (f a : Nat) (x : Option Nat) : hA (sR h f a x) = hA h := rfl
theorem hQ_sR (h : Hp) (f a : Nat) (x : Option Nat) : hQ (sR h f a x) = hQ h := rfl
theorem hL_sR (h : Hp) (f a : Nat) (x : Option Nat) : hL (sR h f a x) = hL h := rfl
theorem hT_sA (h : Hp) (f a : Nat) (x : Int32) : hT (sA h f a x) = hT h := rfl
theorem hU_sA (h : Hp) (f a : Nat) (x : Int32) : hU (sA h f a x) = hU h := rfl
theorem hK_sA (h : Hp) (f a : Nat) (x : Int32) : hK (sA h f a x) = hK h := rfl
theorem hN_sA (h : Hp) (f a : Nat) (x : Int32) : hN (sA h f a x) = hN h := rfl
theorem hI_sA (h : Hp) (f a : Nat) (x : Int32) : hI (sA h f a x) = hI h := rfl
theorem hR_sA (h : Hp) (f a : Nat) (x : Int32) : hR (sA h f a x) = hR h := rfl
theorem hA_sA (h : Hp) (f a : Nat) (x : Int32) (j b : Nat) : hA (sA h f a x) j b = if j = f ∧ b = a then x else hA h j b := rfl
theorem hQ_sA (h : Hp) (f a : Nat) (x : Int32) : hQ (sA h f a x) = hQ h := rfl
theorem hL_sA (h : Hp) (f a : Nat) (x : Int32) : hL (sA h f a x) = hL h := rfl
theorem hT_sQ (h : Hp) (f a : Nat) (x : Option Nat) : hT (sQ h f a x) = hT h := rfl
theorem hU_sQ (h : Hp) (f a : Nat) (x : Option Nat) : hU (sQ h f a x) = hU h := rfl
theorem hK_sQ (h : Hp) (f a : Nat) (x : Option Nat) : hK (sQ h f a x) = hK h := rfl
theorem hN_sQ (h : Hp) (f a : Nat) (x : Option Nat) : hN (sQ h f a x) = hN h := rfl
theorem hI_sQ (h : Hp) (f a : Nat) (x : Option Nat) : hI (sQ h f a x) = hI h := rfl
theorem hR_sQ (h : Hp) (f a : Nat) (x : Option Nat) : hR (sQ h f a x) = hR h := rfl
theorem hA_sQ (h : Hp) (f a : Nat) (x : Option Nat) : hA (sQ h f a x) = hA h := rfl
theorem hQ_sQ (h : Hp) (f a : Nat) (x : Option Nat) (j b : Nat) : hQ (sQ h f a x) j b = if j = f ∧ b = a then x else hQ h j b := rfl
theorem hL_sQ (h : Hp) (f a : Nat) (x : Option Nat) : hL (sQ h f a x) = hL h := rfl
theorem hT_sL (h : Hp) (f a : Nat) (x : Int64) : hT (sL h f a x) = hT h := rfl
theorem hU_sL (h : Hp) (f a : Nat) (x : Int64) : hU (sL h f a x) = hU h := rfl
theorem hK_sL (h : Hp) (f a : Nat) (x : Int64) : hK (sL h f a x) = hK h := rfl
theorem hN_sL (h : Hp) (f a : Nat) (x : Int64) : hN (sL h f a x) = hN h := rfl
theorem hI_sL (h : Hp) (f a : Nat) (x : Int64) : hI (sL h f a x) = hI h := rfl
theorem hR_sL (h : Hp) (f a : Nat) (x : Int64) : hR (sL h f a x) = hR h := rfl
theorem hA_sL (h : Hp) (f a : Nat) (x : Int64) : hA (sL h f a x) = hA h := rfl
theorem hQ_sL (h : Hp) (f a : Nat) (x : Int64) : hQ (sL h f a x) = hQ h := rfl
theorem hL_sL (h : Hp) (f a : Nat) (x : Int64) (j b : Nat) : hL (sL h f a x) j b = if j = f ∧ b = a then x else hL h j b := rfl
theorem hT_nw (h : Hp) (kd n u : Nat) : hT (nw h kd n u) = hT h + 1 := rfl
theorem hU_nw (h : Hp) (kd n u : Nat) : hU (nw h kd n u) = hU h + u := rfl
theorem hK_nw (h : Hp) (kd n u a : Nat) : hK (nw h kd n u) a = if a = hT h then kd else hK h a := rfl
theorem hN_nw (h : Hp) (kd n u a : Nat) : hN (nw h kd n u) a = if a = hT h then n else hN h a := rfl
theorem hI_nw (h : Hp) (kd n u f a : Nat) : hI (nw h kd n u) f a = if a = hT h then 0 else hI h f a := rfl
theorem hR_nw (h : Hp) (kd n u f a : Nat) : hR (nw h kd n u) f a = if a = hT h then none else hR h f a := rfl
theorem hA_nw (h : Hp) (kd n u a i : Nat) : hA (nw h kd n u) a i = if a = hT h then 0 else hA h a i := rfl
theorem hQ_nw (h : Hp) (kd n u a i : Nat) : hQ (nw h kd n u) a i = if a = hT h then none else hQ h a i := rfl
theorem hL_nw (h : Hp) (kd n u a i : Nat) : hL (nw h kd n u) a i = if a = hT h then 0 else hL h a i := rfl
