/-! a reference that may be null, into an array -/
def aq {β : Type} (h : Hp) (o : Option Nat) (K : Nat) (k : Option β) : Option β := match o with
  | none => k
  | some a => if hK h a = K then k else none
theorem aq_s {β : Type} {h : Hp} {o : Option Nat} {K : Nat} {k : Option β} {z : β} (q : aq h o K k = some z) : (∀ v, o = some v → hK h v = K) ∧ k = some z := by
  cases o with
  | none => exact ⟨(fun v h => nomatch h), q⟩
  | some a =>
    simp only [aq] at q
    split at q
    · exact ⟨fun v h => (Option.some.inj h) ▸ (by assumption), q⟩
    · exact absurd q (by simp)
theorem g_aastq {G : Gl} (hw : gF G) {mi : MI} {h0 h : Hp} {P : Option Value → Hp → Prop} {pc : Nat} {L : List (Nat × Value)} {st : List Value} {i : Int32} {a kd ci : Nat} {r : Option Nat} {q : vw_C} (hka : hK h a = kd) (hkd : 120 ≤ kd) (hty : aT kd = some (.object q.1)) (hkv : ∀ v, r = some v → hK h v = ci + 1) (hci : ci < 90) (hc : vwCl[ci]? = some q) (hin : vp_in i (hN h a)) (hd : decode mi.2.1 pc = .ok (.aastore, 1)) (k : Go G mi h0 P (sQ h a i.toNatClampNeg r) (pc + 1) L st) : Go G mi h0 P h pc L (va_rf r :: .int i :: .ref a :: st) := by
  cases r with
  | none => exact g_aastN hw hka hkd hty hin hd k
  | some v => exact g_aast hw hka hkd hty (hkv v rfl) hci hc hin hd k
