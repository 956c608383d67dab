/-! frames of what is on its way; the ticks of the gates -/
theorem Rws.fr {P : Nat → Nat → Prop} {h k : Hp} {x lo : Nat} {tg : Nat → Nat} {Z : RowT} (R : Rws h x lo tg Z) (A : Fr P h k) (hx : x + 38 < hT h) (n1 : ¬ P 9999 (x + 9)) (n2 : ¬ P 9999 (x + 10)) (n3 : ∀ a f, a < hT h → hK h a = 11 → 640 ≤ f → f ≤ 648 → ¬ P f a) (n4 : ∀ u, u < 8 → ¬ P 9999 (x + 16 + 3 * u)) (n5 : ¬ P 9999 (x + 13)) (n6 : ∀ y f, y < hT h → hK h y = 10 → 576 ≤ f → f ≤ 577 → ¬ P f y) : Rws k x lo tg Z := by
  have hT1 := A.1
  refine R.same (fun r _ => ⟨((A.2 (x + 9) (by omega)).2.2.2 n1 r).2.1, ((A.2 (x + 10) (by omega)).2.2.2 n2 r).2.1⟩ ) (fun r hr q hq => ?_) (fun u j hu _ => ((A.2 (x + 16 + 3 * u) (by omega)).2.2.2 (n4 u hu) j).2.1) (fun j => ((A.2 (x + 13) (by omega)).2.2.2 n5 j).2.1) (fun wd h1 h2 => ?_)
  · have ql := (R.tgr r hr q hq).2.2
    have a1 := A.2 q.1 ql
    exact ⟨a1.1, rfl, by omega, fun f h1 h2 => a1.2.2.1 f (n3 q.1 f ql (R.k hr hq) h1 h2)⟩
  · have a1 := A.2 wd h1
    exact ⟨by omega, by rw [a1.1]; exact h2, (a1.2.2.1 576 (n6 wd 576 h1 h2 (by omega) (by omega))).1, (a1.2.2.1 577 (n6 wd 577 h1 h2 (by omega) (by omega))).1⟩
theorem Spr.fr {P : Nat → Nat → Prop} {h k : Hp} {x lo : Nat} {tg : Nat → Nat} {sp : List Nat} (S : Spr h x lo tg sp) (A : Fr P h k) (hx : x + 38 < hT h) (n1 : ¬ P 258 (x + 8)) (n3 : ∀ a f, a < hT h → hK h a = 11 → 640 ≤ f → f ≤ 648 → ¬ P f a) : Spr k x lo tg sp := by
  have hT1 := A.1
  refine ⟨?_, S.nds, fun a ha => ?_⟩
  · rw [((A.2 (x + 8) (by omega)).2.2.1 258 n1).2]
    exact S.spr.same (fun a ha => ⟨(A.2 a (S.tgs a ha).2.2).1, ((A.2 a (S.tgs a ha).2.2).2.2.1 640 (n3 a 640 (S.tgs a ha).2.2 (S.spr.k a ha) (by omega) (by omega))).2⟩)
  · obtain ⟨h1, h2, h3⟩ := S.tgs a ha
    exact ⟨h1, h2, by omega⟩
theorem CaIs.fr {P : Nat → Nat → Prop} {h k : Hp} {x : Nat} {S : Cs} (I : CaIs h x S) (A : Fr P h k) (hx : x + 38 < hT h) (n1 : ¬ P 9999 (x + 6)) (n2 : ¬ P 9999 (x + 7)) (n3 : ¬ P 194 (x + 5)) (n4 : ¬ P 195 (x + 5)) : CaIs k x S := by
  obtain ⟨i1, i2, i3, i4⟩ := I
  refine ⟨fun p hp => ?_, fun g hg => ?_, ?_, ?_⟩
  · rw [((A.2 (x + 6) (by omega)).2.2.2 n1 p).1]; exact i1 p hp
  · rw [((A.2 (x + 7) (by omega)).2.2.2 n2 g).1]; exact i2 g hg
  · rw [((A.2 (x + 5) (by omega)).2.2.1 194 n3).1]; exact i3
  · rw [((A.2 (x + 5) (by omega)).2.2.1 195 n4).1]; exact i4
/-- all ticks of gates are at most G -/
def GB (S : Cs) (G : Nat) : Prop := ∀ g, g < 8 → ∃ τ, τ ≤ G ∧ S.tk g = nI τ
theorem fSt_is {ga c L G : Nat} {S : Cs} (B : GB S G) (g0 : 0 < ga) (g8 : ga ≤ 8) (hc : c ≤ G) (hG : G < 2 ^ 30) : ∃ τ, c ≤ τ ∧ τ ≤ G ∧ fSt ga (nI c) L S = nI τ := by
  obtain ⟨τ, h1, h2⟩ := B (L % ga) (fPl_lt (L := L) g0 g8).2
  unfold fSt
  rw [h2]
  by_cases z : nI τ ≤ nI c
  · rw [if_pos z]; exact ⟨c, Nat.le_refl _, hc, rfl⟩
  · rw [if_neg z]
    refine ⟨τ, ?_, h1, rfl⟩
    by_cases y : τ ≤ c
    · exact absurd (nI_le y (by omega)) z
    · omega
theorem fDn_is {ga c L G : Nat} {S : Cs} (B : GB S G) (g0 : 0 < ga) (g8 : ga ≤ 8) (hc : c ≤ G) (hG : G < 2 ^ 30) : ∃ τ, c + 4 ≤ τ ∧ τ ≤ G + 12 ∧ fDn ga (nI c) L S = nI τ := by
  obtain ⟨τ, h1, h2, h3⟩ := fSt_is (L := L) B g0 g8 hc hG
  unfold fDn
  rw [h3]
  by_cases z : fHt ga L S = true
  · rw [if_pos z]; exact ⟨τ + 4, by omega, by omega, nI_add τ 4⟩
  · rw [if_neg z]; exact ⟨τ + 12, by omega, by omega, nI_add τ 12⟩
theorem fNx_gb {ga c L G : Nat} {S : Cs} (B : GB S G) (g0 : 0 < ga) (g8 : ga ≤ 8) (hc : c ≤ G) (hG : G < 2 ^ 30) : GB (fNx ga (nI c) L S) (G + 5) := by
  intro g hg
  obtain ⟨τ, h1, h2, h3⟩ := fSt_is (L := L) B g0 g8 hc hG
  show ∃ τ, τ ≤ G + 5 ∧ (if g = L % ga then fSt ga (nI c) L S + (if fHt ga L S = true then 1 else 5) else S.tk g) = nI τ
  by_cases y : g = L % ga
  · rw [if_pos y, h3]
    by_cases z : fHt ga L S = true
    · rw [if_pos z]; exact ⟨τ + 1, by omega, nI_add τ 1⟩
    · rw [if_neg z]; exact ⟨τ + 5, by omega, nI_add τ 5⟩
  · rw [if_neg y]
    obtain ⟨τ, h1, h2⟩ := B g hg
    exact ⟨τ, by omega, h2⟩
theorem fS_gb {ga c G : Nat} {D : Nat → Bool} {Lq : Nat → Nat} {S : Cs} (B : GB S G) (g0 : 0 < ga) (g8 : ga ≤ 8) (hc : c ≤ G) (hG : G < 2 ^ 29) : ∀ n, n ≤ 32 → GB (fS ga (nI c) D Lq S n) (G + 5 * n) := by
  intro n
  induction n with
  | zero => intro _; exact B
  | succ n ih =>
    intro hn
    have r := ih (by omega)
    show GB (if fL D Lq n = true then fNx ga (nI c) (Lq n) (fS ga (nI c) D Lq S n) else fS ga (nI c) D Lq S n) _
    by_cases z : fL D Lq n = true
    · rw [if_pos z]
      have r2 := fNx_gb (L := Lq n) (G := G + 5 * n) (c := c) r g0 g8 (by omega) (by omega)
      rw [show G + 5 * (n + 1) = G + 5 * n + 5 by omega]
      exact r2
    · rw [if_neg z]
      intro g hg
      obtain ⟨τ, h1, h2⟩ := r g hg
      exact ⟨τ, by omega, h2⟩
theorem ltF_s {ga : Nat} {c : Int32} {D : Nat → Bool} {Lq : Nat → Nat} {S : Cs} {n : Nat} : ltF ga c D Lq S (n + 1) = if fL D Lq n = true then (if fDn ga c (Lq n) (fS ga c D Lq S n) ≤ ltF ga c D Lq S n then ltF ga c D Lq S n else fDn ga c (Lq n) (fS ga c D Lq S n)) else ltF ga c D Lq S n := rfl
theorem dnL_s {ga : Nat} {c : Int32} {D : Nat → Bool} {Lq : Nat → Nat} {S : Cs} {l n : Nat} : dnL ga c D Lq S l (n + 1) = if fL D Lq n = true ∧ Lq n = l then fDn ga c l (fS ga c D Lq S n) else dnL ga c D Lq S l n := rfl
theorem ltF_is {ga c G : Nat} {D : Nat → Bool} {Lq : Nat → Nat} {S : Cs} (B : GB S G) (g0 : 0 < ga) (g8 : ga ≤ 8) (hc : c ≤ G) (hG : G < 2 ^ 29) : ∀ n, n ≤ 32 → ∃ σ, c + 1 ≤ σ ∧ σ ≤ G + 5 * n + 12 ∧ ltF ga (nI c) D Lq S n = nI σ ∧ ∀ l, exB (fun j => D j && decide (Lq j = l)) n = true → ∃ τ, c + 4 ≤ τ ∧ τ ≤ σ ∧ dnL ga (nI c) D Lq S l n = nI τ := by
  intro n
  induction n with
  | zero => intro _; exact ⟨c + 1, Nat.le_refl _, by omega, nI_add c 1, fun l z => by cases z⟩
  | succ n ih =>
    intro hn
    obtain ⟨σ, h1, h2, h3, h4⟩ := ih (by omega)
    have b := fS_gb (D := D) (Lq := Lq) B g0 g8 hc hG n (by omega)
    obtain ⟨τ, t1, t2, t3⟩ := fDn_is (L := Lq n) (G := G + 5 * n) (c := c) b g0 g8 (by omega) (by omega)
    have exs : ∀ l, exB (fun j => D j && decide (Lq j = l)) (n + 1) = (exB (fun j => D j && decide (Lq j = l)) n || (D n && decide (Lq n = l))) := fun l => rfl
    rw [ltF_s]
    by_cases z : fL D Lq n = true
    · rw [if_pos z, t3, h3]
      by_cases y : nI τ ≤ nI σ
      · rw [if_pos y]
        have y2 : τ ≤ σ := (nI_leI (by omega) (by omega)).mp y
        refine ⟨σ, h1, by omega, rfl, fun l hl => ?_⟩
        rw [dnL_s]
        by_cases e : Lq n = l
        · rw [if_pos ⟨z, e⟩, ← e, t3]; exact ⟨τ, t1, y2, rfl⟩
        · rw [if_neg (fun k => e k.2)]
          refine h4 l ?_
          rw [exs, decide_eq_false e, Bool.and_false, Bool.or_false] at hl
          exact hl
      · rw [if_neg y]
        have y2 : σ < τ := by
          by_cases k : τ ≤ σ
          · exact absurd (nI_le k (by omega)) y
          · omega
        refine ⟨τ, by omega, by omega, rfl, fun l hl => ?_⟩
        rw [dnL_s]
        by_cases e : Lq n = l
        · rw [if_pos ⟨z, e⟩, ← e, t3]; exact ⟨τ, t1, Nat.le_refl _, rfl⟩
        · rw [if_neg (fun k => e k.2)]
          rw [exs, decide_eq_false e, Bool.and_false, Bool.or_false] at hl
          obtain ⟨a, a1, a2, a3⟩ := h4 l hl
          exact ⟨a, a1, by omega, a3⟩
    · rw [if_neg z]
      refine ⟨σ, h1, by omega, h3, fun l hl => ?_⟩
      rw [dnL_s, if_neg (fun k => z k.1)]
      refine h4 l ?_
      rw [exs] at hl
      cases q : exB (fun j => D j && decide (Lq j = l)) n with
      | true => rfl
      | false =>
        rw [q, Bool.false_or] at hl
        obtain ⟨d1, d2⟩ := Bool.and_eq_true_iff.mp hl
        have d3 : Lq n = l := of_decide_eq_true d2
        refine absurd ?_ z
        unfold fL
        rw [d1, d3, q]
        rfl
/-- lists without doubles, below n -/
theorem nodup_len : ∀ (n : Nat) (l : List Nat), l.Nodup → (∀ a, a ∈ l → a < n) → l.length ≤ n := by
  intro n
  induction n with
  | zero =>
    intro l _ h
    cases l with
    | nil => exact Nat.le_refl _
    | cons a l => exact absurd (h a (List.mem_cons_self ..)) (Nat.not_lt_zero _)
  | succ n ih =>
    intro l nd h
    have r := ih (l.erase n) (nd.erase n) (fun a ha => by
      have h1 := (List.Nodup.mem_erase_iff nd).mp ha
      have := h a h1.2
      omega)
    have : l.length ≤ (l.erase n).length + 1 := by
      rw [List.length_erase]
      split <;> omega
    omega
