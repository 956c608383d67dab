/-! the law, pure -/
theorem sumN_lb {f : Nat → Nat} {b : Nat} : ∀ n, (∀ i, i < n → f i ≤ b) → sumN f n ≤ b * n := by
  intro n
  induction n with
  | zero => intro _; exact Nat.le_refl _
  | succ n ih =>
    intro q
    have a1 := ih (fun i hi => q i (by omega))
    have a2 := q n (by omega)
    show sumN f n + f n ≤ b * (n + 1)
    rw [Nat.mul_succ]
    omega
theorem PT_le {o : Nat → Nat} {h hr : Hp} {x m lo ln : Nat} (S : ∀ t, t < 128 → SlotOk o h hr x m lo ln t) : PT h x ≤ 2816 := by
  have e1 := cn_le (potB h x) 64
  have e2 : sumN (potS h x) 128 ≤ 21 * 128 := sumN_lb 128 (fun s hs => by
    unfold potS
    rcases S s hs with ⟨z, _⟩ | ⟨w, rg, pl, ro, pr, ti, L, z, W, ⟨e, he, eL⟩, _⟩
    · rw [z]; exact Nat.zero_le _
    · rw [z]
      dsimp only
      rw [W.r_pl]
      dsimp only
      rw [W.n_pl, eL, Nat.log2_two_pow]
      omega)
  unfold PT
  omega
theorem RIni.nx {K : Hp} {m : Nat} (R : RIni K m) (t : hT K = m + 29) : RIni (nw K 110 1 1) m := by
  obtain ⟨M, r0, r1, r2, r3, r4, r5, r6⟩ := R
  have RN : RC m (m + 29) K (nw K 110 1 1) := fun a h1 h2 => by
    have n : ¬ a = hT K := by omega
    exact ⟨by rw [qK_nw, if_neg n], by rw [qN_nw, if_neg n], fun f => ⟨by rw [qI_nw, if_neg n], by rw [qR_nw, if_neg n]⟩, fun j => ⟨by rw [qA_nw, if_neg n], by rw [qQ_nw, if_neg n], by rw [qL_nw, if_neg n]⟩⟩
  have eI : ∀ f, hI (nw K 110 1 1) f m = hI K f m := fun f => ((RN m (by omega) (by omega)).2.2.1 f).1
  have eA : ∀ a j, m ≤ a → a < m + 29 → hA (nw K 110 1 1) a j = hA K a j := fun a j h1 h2 => ((RN a h1 h2).2.2.2 j).1
  have eL : ∀ j, hL (nw K 110 1 1) (m + 1) j = hL K (m + 1) j := fun j => ((RN (m + 1) (by omega) (by omega)).2.2.2 j).2.2
  refine ⟨M.rc RN (by omega), ?_, fun f h1 h2 => by rw [eI]; exact r1 f h1 h2, fun j => by rw [eA _ _ (by omega) (by omega)]; exact r2 j, fun j => by rw [eL]; exact r3 j, fun t ht => by rw [eA _ _ (by omega) (by omega)]; exact r4 t ht, fun j hj => by rw [eA _ _ (by omega) (by omega)]; exact r5 j hj, fun u hu => by rw [eA _ _ (by omega) (by omega), eA _ _ (by omega) (by omega), eA _ _ (by omega) (by omega), eA _ _ (by omega) (by omega), eA _ _ (by omega) (by omega)]; exact r6 u hu⟩
  rw [eI, eI, eI, eI, eI, eI]; exact r0
theorem first_j {h : Hp} {x m : Nat} (C : CIni h x) (R : RIni h m) (em : m = x + 39) (t : hT h = m + 30) (k29 : hK h (m + 29) = 110) (n29 : hN h (m + 29) = 1) : J1 h x m (hU h) 0 := by
  have q6 := C.2.2.1.2.2.2.2.2.1
  have r1 := R.2.2.1
  have S := first_sm C R em t (fun a h1 h2 => by
    by_cases z : a = m + 29
    · rw [z, k29]; omega
    · exact R.1.k12 a h1 (by omega)) (q6 326)
  exact ⟨⟨fun _ => 0, 4, 4, 2, 4, 2, 512, 0, 0, ⟨h, ⟨0, S⟩, Gh.refl _ _, fun _ => rfl⟩, r1 726 (by omega) (by omega), by omega, by omega, by rw [q6, r1 715 (by omega) (by omega)], Or.inr (Or.inr ⟨Or.inl (r1 715 (by omega) (by omega)), r1 745 (by omega) (by omega)⟩)⟩, k29, n29⟩
theorem pure_law : PureLaw := by
  intro L xs n hL
  obtain ⟨k1, e1, C1, t1, u1⟩ := c_WM_init (F := 40000) (x := n) (Nat.le_refl _)
  obtain ⟨K, f1, R, t3, u3, A3⟩ := mod_ini (F := 40000) (m := n + 39) (h := nw k1 12 0 60) (Nat.le_refl _) (by rw [qK_nw, t1, if_pos rfl]) (by rw [qT_nw, t1]) (fun f => by rw [qI_nw, t1, if_pos rfl])
  have A : Fr (fun _ a => n + 39 ≤ a) k1 (nw K 110 1 1) := (((Fr.refl k1).cN 12 0 60).trans A3).cN 110 1 1
  have C2 := C1.fr (by omega) A
  have R2 := R.nx t3
  have J := first_j C2 R2 rfl (by rw [qT_nw, t3]) (by rw [qK_nw, t3, if_pos rfl]) (by rw [qN_nw, t3, if_pos rfl])
  obtain ⟨kr, nD, r1, r2, r3⟩ := law_loop (F := 40000) (sl := L) (sx := xs) (Nat.le_refl _) hL 512 0 40000 0 _ (by omega) (by omega) (by omega) J
  have ev : f_Law_law 40000 L xs (h00 n) = some (1, kr) := by
    rw [f_Law_law, pw_e, pw_e, show hT (h00 n) = n from rfl, e1, clv_some, pw_e, t1, pw_e, f1, clv_some, pw_e, t3, pw_e]
    exact r1
  have uu : hU (nw K 110 1 1) ≤ 300000 := by
    rw [qU_nw, u3, qU_nw, u1]
    decide
  obtain ⟨⟨o, ln, sl, nn, bk, ga, sz, c, al, SB⟩, _, _⟩ := r2
  obtain ⟨⟨hg, ⟨Ta, S⟩, g, _⟩, _⟩ := SB
  have pt := PT_le S.X.S
  obtain ⟨l1, l2, l3⟩ := S.lg
  have g1 := g.1.1
  have g2 := g.1.2.1
  refine ⟨kr, ev, ?_, ?_⟩
  · show hT kr ≤ n + 151480
    omega
  · show hU kr ≤ 8641666
    omega
