/-! traps, both sides -/
theorem Sx.tal {o : Nat → Nat} {hc H kc kr : Hp} {x m lo ln sl : Nat} (X : Sx o hc H x m lo ln sl) (A : Fr (fun _ a => a = x + 11) hc kc) (rI : ∀ f, f = 705 ∨ f = 717 ∨ f = 716 → hI kr f m = hI H f m) (rA : ∀ a j, (m + 9) ≤ a → a ≤ (m + 18) → hA kr a j = hA H a j) (eL : ∀ k, k < 128 → hL kr (m + 1) k = hL H (m + 1) k) : Sx o kc kr x m lo ln sl := by
  have C := X.C
  have hx := X.hx
  have lx := X.lx
  have hT1 := A.1
  have R : ∀ t, Rs m t H kr := fun t => ⟨⟨rI _ (Or.inl rfl), rI _ (Or.inr (Or.inl rfl))⟩, ⟨rA _ _ (by omega) (by omega), rA _ _ (by omega) (by omega), rA _ _ (by omega) (by omega)⟩, fun r _ => rA _ _ (by omega) (by omega), fun i _ => ⟨rA _ _ (by omega) (by omega), rA _ _ (by omega) (by omega), rA _ _ (by omega) (by omega), rA _ _ (by omega) (by omega)⟩, fun j _ => rA _ _ (by omega) (by omega)⟩
  have sb : ∀ t, hA kr (m + 9) t = hA H (m + 9) t := fun t => rA _ _ (by omega) (by omega)
  refine ⟨C.frame A hx (fun f _ z => by omega) (fun f _ _ z => by omega) (fun f _ _ z => by omega) (fun f _ _ z => by omega) (fun z => by omega) (fun u f _ _ _ z => by omega), X.K.frame A (by omega) (fun z => by omega) (fun f y _ _ ky z => by rw [z, C.k_tally] at ky; cases ky) eL, by omega, lx, fun u hu => ?_, X.s16, by rw [rI _ (Or.inl rfl)]; exact X.hl, X.l32, fun t ht => ?_, fun c hc2 => ?_, fun t ht z => X.nf t ht (by rw [← sb]; exact z), fun u hu => ?_⟩
  · rw [((A.2 (x + 15 + 3 * u) (by omega)).2.2.1 _ (fun z => by omega)).1]
    exact X.us u hu
  · exact (X.S t ht).fr X.K X.l32 (CsS.of A hx ht (fun z => by omega) (fun z => by omega) (fun z => by omega) (fun a f h1 _ _ _ _ z => by omega) (fun y f _ ky _ _ z => by rw [z, C.k_tally] at ky; cases ky)) (R t)
  · refine (X.B c hc2).fr hT1 (((A.2 (x + 13) (by omega)).2.2.2 (fun z => by omega) c).2.1) (fun a h1 h2 _ _ => ?_) (fun t _ => by rw [sb]) (rI _ (Or.inr (Or.inr rfl))) (rI _ (Or.inr (Or.inl rfl))) (cnt_rs (fun t _ => R t)).1 (cnt_rs (fun t _ => R t)).2 (fun k _ => rA _ _ (by omega) (by omega))
    obtain ⟨a1, a2, a3, a4⟩ := A.2 a h2
    exact ⟨a1, a2, fun f _ _ => a3 f (fun z => by omega), fun j => (a4 (fun z => by omega) j).1⟩
  · rw [((A.2 (x + 15 + 3 * u) (by omega)).2.2.1 _ (fun z => by omega)).1, X.uf u hu]
    exact congrArg nI (cn_congr sl fun k _ => by rw [sb])
theorem tp_fr {h : Hp} {x w bl : Nat} {why v : Int32} : Fr (fun _ a => a = x + 11) h (tpH h x w bl why v) := by
  have p : ∀ f : Nat, (fun (_ a : Nat) => a = x + 11) f (x + 11) := fun _ => rfl
  unfold tpH
  exact ((((Fr.refl (P := fun (_ a : Nat) => a = x + 11) h).cI (p 330)).cI (p 331)).cI (p 332)).cI (p 333)
theorem tr_I {h : Hp} {m s i f : Nat} {k : Int32} (n1 : ¬ f = 715) (n2 : ¬ (727 ≤ f ∧ f ≤ 730)) : hI (rTrap h m s i k) f m = hI h f m := by
  unfold rTrap
  rw [qI_sI, if_neg (by omega), qI_sI, if_neg (by omega), qI_sI, if_neg (by omega), qI_sI, if_neg (by omega), qI_sI, if_neg (fun z => n1 z.1)]
theorem tr_A {h : Hp} {m s i : Nat} {k : Int32} : hA (rTrap h m s i k) = hA h := by unfold rTrap; simp only [qA_sI]
theorem tr_L {h : Hp} {m s i : Nat} {k : Int32} : hL (rTrap h m s i k) = hL h := by unfold rTrap; simp only [qL_sI]
theorem go_t1 {o : Nat → Nat} {hc H : Hp} {x m lo ln sl u s b w rg pl pr ti L bl F i0 : Nat} {c : Int32} (hF : 40000 ≤ F) (X : Sx o hc H x m lo ln sl) (M : Md H m) (hs : s < 128) (B : Wb hc H x m s ln b w rg pl pr ti L bl) (wk : hK hc w = 9) (kb : hK hc bl = 8) (hi : i0 < 32) (q : ¬ hA H (m + 26) i0 = 0) (l : ∀ j, j < i0 → hA H (m + 26) j = 0) (eg : ∀ i, i < 32 → bt (hI hc 518 w) i = gpB H m i) (hw : hR hc 520 w = none) (bad : hA H (m + 15) (32 * s + i0) < 0 ∨ 128 ≤ hA H (m + 15) (32 * s + i0)) : f_WM_go F x (some (x + 15 + 3 * u)) (some w) c hc = some (tpH hc x w bl 1 (nI i0)) ∧ f_Mod_go F m (nI u) (nI s) H = some (rTrap H m s i0 1) ∧ Sx o (tpH hc x w bl 1 (nI i0)) (rTrap H m s i0 1) x m lo ln sl := by
  refine ⟨c_go_none hF X.C wk B.blk kb hi (by rw [eg i0 hi]; exact decide_eq_true q) (fun j hj => by rw [eg j (by omega)]; exact decide_eq_false (fun z => z (l j hj))) hw, r_go_1 M hF hs hi q l bad, X.tal tp_fr (fun f hf => ?_) (fun a j _ _ => by rw [tr_A]) (fun k _ => by rw [tr_L])⟩
  exact tr_I (by omega) (by omega)
theorem go_t2 {o : Nat → Nat} {hc H : Hp} {x m lo ln sl u s b w rg pl pr ti L bl F i0 p wd : Nat} {v : Int64} {c : Int32} (hF : 40000 ≤ F) (X : Sx o hc H x m lo ln sl) (M : Md H m) (hs : s < 128) (B : Wb hc H x m s ln b w rg pl pr ti L bl) (wk : hK hc w = 9) (kb : hK hc bl = 8) (hi : i0 < 32) (q : ¬ hA H (m + 26) i0 = 0) (l : ∀ j, j < i0 → hA H (m + 26) j = 0) (eg : ∀ i, i < 32 → bt (hI hc 518 w) i = gpB H m i) (hw : hR hc 520 w = some wd) (Wd : WordIs hc wd v) (ep : hA H (m + 15) (32 * s + i0) = nI p) (lp : p < 128) (ev : hL H (m + 1) p = v) (nk : ¬ kKnown (wOp v) (wN v)) : f_WM_go F x (some (x + 15 + 3 * u)) (some w) c hc = some (tpH hc x w bl 2 (nI i0)) ∧ f_Mod_go F m (nI u) (nI s) H = some (rTrap (rTake H m v) m s i0 2) ∧ Sx o (tpH hc x w bl 2 (nI i0)) (rTrap (rTake H m v) m s i0 2) x m lo ln sl := by
  refine ⟨c_go_unknown hF X.C wk B.blk kb hi (by rw [eg i0 hi]; exact decide_eq_true q) (fun j hj => by rw [eg j (by omega)]; exact decide_eq_false (fun z => z (l j hj))) hw Wd.k (by rw [Wd.known]; exact bI_f nk), by rw [r_go_w M hF hs hi q l ep lp, ev, if_neg nk], X.tal tp_fr (fun f hf => ?_) (fun a j _ _ => by rw [tr_A]; unfold rTake; simp only [qA_sI]) (fun k _ => by rw [tr_L]; unfold rTake; simp only [qL_sI])⟩
  rw [tr_I (by omega) (by omega)]
  exact (rTake_f H m v).i (by omega)
/-- what both tell of the trap -/
theorem trap_eq {hc hr kc kr : Hp} {x m s i b ln w rg pl pr ti L bl : Nat} {why : Int32} (B : Wb hc hr x m s ln b w rg pl pr ti L bl) (bn : hI hc 448 bl = nI b) (hl : hI hr 705 m = nI ln) (pl2 : hI hc 519 w = hA hr (m + 15) (32 * s + i)) (e1 : kc = tpH hc x w bl why (nI i)) (e2 : kr = rTrap hr m s i why) : hI kc 330 (x + 11) = hI kr 727 m ∧ hI kc 331 (x + 11) = hI kr 728 m ∧ hI kc 332 (x + 11) = hI kr 729 m ∧ hI kc 333 (x + 11) = hI kr 730 m ∧ hI kr 715 m = 4 ∧ hI kc 330 (x + 11) = why := by
  subst e1
  subst e2
  unfold tpH rTrap
  refine ⟨?_, ?_, ?_, ?_, ?_, ?_⟩
  · rw [qI_sI, if_neg (fun z => by cases z.1), qI_sI, if_neg (fun z => by cases z.1), qI_sI, if_neg (fun z => by cases z.1), qI_sI, if_pos ⟨rfl, rfl⟩, qI_sI, if_neg (fun z => by cases z.1), qI_sI, if_neg (fun z => by cases z.1), qI_sI, if_neg (fun z => by cases z.1), qI_sI, if_pos ⟨rfl, rfl⟩]
  · rw [qI_sI, if_neg (fun z => by cases z.1), qI_sI, if_neg (fun z => by cases z.1), qI_sI, if_pos ⟨rfl, rfl⟩, qI_sI, if_neg (fun z => by cases z.1), qI_sI, if_neg (fun z => by cases z.1), qI_sI, if_pos ⟨rfl, rfl⟩, bn, B.sb]
  · rw [qI_sI, if_neg (fun z => by cases z.1), qI_sI, if_pos ⟨rfl, rfl⟩, qI_sI, if_neg (fun z => by cases z.1), qI_sI, if_pos ⟨rfl, rfl⟩, B.num, B.lns, hl, Int32.mul_comm]
  · rw [qI_sI, if_pos ⟨rfl, rfl⟩, qI_sI, if_pos ⟨rfl, rfl⟩]
    exact pl2
  · rw [qI_sI, if_neg (fun z => by cases z.1), qI_sI, if_neg (fun z => by cases z.1), qI_sI, if_neg (fun z => by cases z.1), qI_sI, if_neg (fun z => by cases z.1), qI_sI, if_pos ⟨rfl, rfl⟩]
  · rw [qI_sI, if_neg (fun z => by cases z.1), qI_sI, if_neg (fun z => by cases z.1), qI_sI, if_neg (fun z => by cases z.1), qI_sI, if_pos ⟨rfl, rfl⟩]
