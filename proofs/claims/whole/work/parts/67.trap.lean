/-! traps, both sides -/
theorem Sx.tal {o : Nat → Nat} {hc H kc kr : Hp} {x m lo ln sl : Nat} (X : Sx o hc H x m lo ln sl) (A : Fr (fun _ a => a = x + 11) hc kc) (rI : ∀ f, f = 705 ∨ f = 717 ∨ f = 716 → hI kr f m = hI H f m) (rA : ∀ a j, (m + 9) ≤ a → a ≤ (m + 18) → hA kr a j = hA H a j) (eL : ∀ k, k < 128 → hL kr (m + 1) k = hL H (m + 1) k) : Sx o kc kr x m lo ln sl := by
  have C := X.C
  have hx := X.hx
  have lx := X.lx
  have hT1 := A.1
  have R : ∀ t, Rs m t H kr := fun t => ⟨⟨rI _ (Or.inl rfl), rI _ (Or.inr (Or.inl rfl))⟩, ⟨rA _ _ (by omega) (by omega), rA _ _ (by omega) (by omega), rA _ _ (by omega) (by omega)⟩, fun r _ => rA _ _ (by omega) (by omega), fun i _ => ⟨rA _ _ (by omega) (by omega), rA _ _ (by omega) (by omega), rA _ _ (by omega) (by omega), rA _ _ (by omega) (by omega)⟩, fun j _ => rA _ _ (by omega) (by omega)⟩
  have sb : ∀ t, hA kr (m + 9) t = hA H (m + 9) t := fun t => rA _ _ (by omega) (by omega)
  refine ⟨C.frame A hx (fun f _ z => by omega) (fun f _ _ z => by omega) (fun f _ _ z => by omega) (fun f _ _ z => by omega) (fun z => by omega) (fun u f _ _ _ z => by omega), X.K.frame A (by omega) (fun z => by omega) (fun f y _ _ ky z => by rw [z, C.k_tally] at ky; cases ky) eL, by omega, lx, fun u hu => ?_, X.s16, by rw [rI _ (Or.inl rfl)]; exact X.hl, X.l32, fun t ht => ?_, fun c hc2 => ?_, fun t ht z => X.nf t ht (by rw [← sb]; exact z), fun u hu => ?_⟩
  · rw [((A.2 (x + 15 + 3 * u) (by omega)).2.2.1 _ (fun z => by omega)).1]
    exact X.us u hu
  · exact (X.S t ht).fr X.K X.l32 (CsS.of A hx ht (fun z => by omega) (fun z => by omega) (fun z => by omega) (fun a f h1 _ _ _ _ z => by omega) (fun y f _ ky _ _ z => by rw [z, C.k_tally] at ky; cases ky)) (R t)
  · refine (X.B c hc2).fr hT1 (((A.2 (x + 13) (by omega)).2.2.2 (fun z => by omega) c).2.1) (fun a h1 h2 _ _ => ?_) (fun t _ => by rw [sb]) (rI _ (Or.inr (Or.inr rfl))) (rI _ (Or.inr (Or.inl rfl))) (cnt_rs (fun t _ => R t)).1 (cnt_rs (fun t _ => R t)).2 (fun k _ => rA _ _ (by omega) (by omega))
    obtain ⟨a1, a2, a3, a4⟩ := A.2 a h2
    exact ⟨a1, a2, fun f _ _ => a3 f (fun z => by omega), fun j => (a4 (fun z => by omega) j).1⟩
  · rw [((A.2 (x + 15 + 3 * u) (by omega)).2.2.1 _ (fun z => by omega)).1, X.uf u hu]
    exact congrArg nI (cn_congr sl fun k _ => by rw [sb])
