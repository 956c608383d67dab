/-! blocks that meet: all cases -/
theorem rl_se {h : Hp} {m ln s i : Nat} {b : Int32} {p2 p3 : Bool} : rLn (seH h m ln b p2 p3) m s i ↔ rLn h m s i := rLn_same (se_I (by decide)) (se_I (by decide)) (by rw [se_A, stG_o (by omega) (by omega)])
theorem sb_se {h : Hp} {m ln s b c : Nat} {p2 p3 : Bool} (hs : s < 128) (hb : b < 64) (hc : c < 64) (q : ¬ b = c ∨ p3 = false) : hA (seH h m ln (nI b) p2 p3) (m + 9) s = nI c ↔ hA h (m + 9) s = nI c := by
  rw [se_A, stG_s hs]
  by_cases z : p3 = true ∧ hA h (m + 9) s = nI b
  · rw [if_pos z]
    constructor
    · intro y
      exact absurd y.symm (nI_m1 (by omega))
    · intro y
      rcases q with q | q
      · exact absurd ((nI_eq (by omega) (by omega)).mp (z.2.symm.trans y)) q
      · rw [q] at z; cases z.1
  · rw [if_neg z]
theorem av_se {h : Hp} {m ln b c t : Nat} {p2 p3 : Bool} (ht : t < 4096) (hb : b < 64) (hc : c < 64) (q : ¬ b = c ∨ p3 = false) : avB (seH h m ln (nI b) p2 p3) m c t = avB h m c t := by
  unfold avB
  rw [show decide (hA (seH h m ln (nI b) p2 p3) (m + 9) (t / 32) = nI c) = decide (hA h (m + 9) (t / 32) = nI c) from decide_eq_decide.mpr (sb_se (by omega) hb hc q), show decide (rLn (seH h m ln (nI b) p2 p3) m (t / 32) (t % 32)) = decide (rLn h m (t / 32) (t % 32)) from decide_eq_decide.mpr rl_se, se_A, stG_o (by omega) (by omega)]
theorem wt_se {h : Hp} {m ln b c t : Nat} {p2 p3 : Bool} (ht : t < 4096) (hb : b < 64) (hc : c < 64) (q : ¬ b = c ∨ (p2 = false ∧ p3 = false)) : wtB (seH h m ln (nI b) p2 p3) m c t = wtB h m c t := by
  unfold wtB
  rw [show decide (hA (seH h m ln (nI b) p2 p3) (m + 9) (t / 32) = nI c) = decide (hA h (m + 9) (t / 32) = nI c) from decide_eq_decide.mpr (sb_se (by omega) hb hc (q.imp id (fun z => z.2)))]
  by_cases e : hA h (m + 9) (t / 32) = nI c
  · have ew : hA (seH h m ln (nI b) p2 p3) (m + 17) t = hA h (m + 17) t := by
      have := stG_w (h := h) (m := m) (ln := ln) (s := t / 32) (i := t % 32) (b := nI b) (p2 := p2) (p3 := p3) (by omega) (by omega)
      rw [show 32 * (t / 32) + t % 32 = t by omega] at this
      rw [se_A, this, if_neg (fun z => by
        rcases q with q | q
        · exact q ((nI_eq (by omega) (by omega)).mp (z.2.1.symm.trans e))
        · rw [q.1] at z; cases z.1)]
    rw [ew]
  · rw [decide_eq_false e, Bool.false_and, Bool.false_and]
theorem wt_se_b {h : Hp} {m ln b t : Nat} (ht : t < 4096) (l32 : ln ≤ 32) (hl : hI h 705 m = nI ln) (hb : b < 64) (lw : ∀ s i, s < 128 → i < 32 → hA h (m + 9) s = nI b → ¬ hA h (m + 17) (32 * s + i) = 0 → rLn h m s i) : wtB (seH h m ln (nI b) true false) m b t = false := by
  unfold wtB
  rw [show decide (hA (seH h m ln (nI b) true false) (m + 9) (t / 32) = nI b) = decide (hA h (m + 9) (t / 32) = nI b) from decide_eq_decide.mpr (sb_se (by omega) hb hb (Or.inr rfl))]
  by_cases e : hA h (m + 9) (t / 32) = nI b
  · have := (se_rw (h := h) (m := m) (ln := ln) (s := t / 32) (b := nI b) (by omega) l32 e hl (fun i hi => lw (t / 32) i (by omega) hi e)).2.2.2.1 (t % 32) (by omega)
    have := this.2.2.2
    rw [show 32 * (t / 32) + t % 32 = t by omega] at this
    rw [decide_eq_false (show ¬ ¬ hA (seH h m ln (nI b) true false) (m + 17) t = 0 from fun z => z this), Bool.and_false]
  · rw [decide_eq_false e, Bool.false_and]
/-- what meeting may change -/
def PG (h : Hp) (x lo f a : Nat) : Prop := PW h lo f a ∨ (a = x + 11 ∧ f = 324) ∨ (x + 15 ≤ a ∧ a ≤ x + 38 ∧ f = 387) ∨ (lo ≤ a ∧ hK h a = 8 ∧ (f = 450 ∨ f = 454))
theorem PG.cd {h k : Hp} {x lo : Nat} (C : Cd h x) (A : Fr (PG h x lo) h k) (hx : x + 38 < hT h) (lx : x + 38 < lo) : Cd k x := by
  have g : ∀ f a, a ≤ x + 38 → ¬ f = 387 → ¬ f = 324 → ¬ PG h x lo f a := fun f a ha nf ng z => by
    rcases z with z | z | z | z
    · have := z.1; omega
    · exact ng z.2
    · exact nf z.2.2
    · have := z.1; omega
  exact C.frame A hx (fun f _ => g f _ (by omega) (by omega) (by omega)) (fun f _ _ => g f _ (by omega) (by omega) (by omega)) (fun f _ _ => g f _ (by omega) (by omega) (by omega)) (fun f _ _ => g f _ (by omega) (by omega) (by omega)) (g _ _ (by omega) (by decide) (by decide)) (fun u f hu _ _ => g f _ (by omega) (by omega) (by omega))
theorem PG.kn {hc kc hr kr : Hp} {x m lo : Nat} (K : Kn hc hr x m) (C : Cd hc x) (A : Fr (PG hc x lo) hc kc) (hx : x + 38 < hT hc) (lx : x + 38 < lo) (eL : ∀ k, k < 128 → hL kr (m + 1) k = hL hr (m + 1) k) : Kn kc kr x m := K.frame A (by omega) (fun z => by
    rcases z with z | z | z | z
    · have := z.1; omega
    · cases z.2
    · cases z.2.2
    · have := z.1; omega) (fun f y f1 f2 ky z => by
    rcases z with z | z | z | z
    · have z1 := z.2.1; rw [ky] at z1; cases z1
    · have := z.2; omega
    · have := z.2.2; omega
    · have z1 := z.2.1; rw [ky] at z1; cases z1) eL
theorem PG.cs {o : Nat → Nat} {hc kc : Hp} {x lo s : Nat} (A : Fr (PG hc x lo) hc kc) (hx : x + 38 < hT hc) (lx : x + 38 < lo) (hs : s < 128) (nw : ∀ a, lo ≤ a → a < hT hc → hK hc a = 9 → 6 * s ≤ o a → o a ≤ 6 * s + 5 → ∀ f, 512 ≤ f → f ≤ 527 → hI kc f a = hI hc f a ∧ hR kc f a = hR hc f a) : CsS o x lo s hc kc := by
  have g : ∀ a, a ≤ x + 38 → ¬ PG hc x lo 9999 a := fun a ha z => by
    rcases z with z | z | z | z
    · have := z.1; omega
    · cases z.2
    · cases z.2.2
    · have := z.1; omega
  have g2 : ∀ a, ¬ PG hc x lo 9999 a := fun a z => by
    rcases z with z | z | z | z
    · have := z.2.2; omega
    · cases z.2
    · cases z.2.2
    · have := z.2.2; omega
  refine ⟨⟨A.1, ((A.2 _ (by omega)).2.2.2 (g2 _) _).2.1, fun b => ((A.2 _ (by omega)).2.2.2 (g2 _) b).2.1, fun p => ((A.2 _ (by omega)).2.2.2 (g2 _) p).2.1⟩, fun a h1 h2 h3 h4 h5 => ?_, fun y y1 y2 => ?_⟩
  · obtain ⟨a1, a2, a3, a4⟩ := A.2 a h2
    refine ⟨a1, a2, fun f f1 f2 => ?_, fun j => (a4 (g2 a) j).1⟩
    rcases h5 with h5 | h5
    · exact nw a h1 h2 h5 h3 h4 f f1 f2
    · exact a3 f (fun z => by
        rcases z with z | z | z | z
        · have z1 := z.2.1; rw [h5] at z1; cases z1
        · have := z.1; omega
        · have := z.2.1; omega
        · have z1 := z.2.1; rw [h5] at z1; cases z1)
  · obtain ⟨a1, a2, a3, a4⟩ := A.2 y y1
    refine ⟨by rw [a1]; exact y2, fun f f1 f2 => (a3 f (fun z => by
      rcases z with z | z | z | z
      · have z1 := z.2.1; rw [y2] at z1; cases z1
      · have := z.2; omega
      · have := z.2.2; omega
      · have z1 := z.2.1; rw [y2] at z1; cases z1)).1⟩
