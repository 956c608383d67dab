/-! a word without a memory: the other slots, and who is alive -/
theorem lcN_en {g : Nat → Nat → Int32} {m s d n : Nat} {G D : Nat → Bool} {PF : Nat → Int32} {RF QF : Nat → Option Int32} {e w : Option Int32} {j : Nat} (h : ∀ i, i < n → ¬ j = 32 * s + i) : lcN g m s d n G D PF RF QF e w (m + 16) j = g (m + 16) j := by
  unfold lcN
  rw [fo_o (by omega), fo_c (fun i hi => by have := h i hi; omega), fo_o (by omega), fo_o (by omega), fx_o (by omega)]
theorem lcN_wa {g : Nat → Nat → Int32} {m s d n : Nat} {G D : Nat → Bool} {PF : Nat → Int32} {RF QF : Nat → Option Int32} {e w : Option Int32} {j : Nat} (h : ∀ i, i < n → ¬ j = 32 * s + i) : lcN g m s d n G D PF RF QF e w (m + 17) j = g (m + 17) j := by
  unfold lcN
  rw [fo_c (fun i hi => by have := h i hi; omega), fo_o (by omega), fo_o (by omega), fo_o (by omega), fx_o (by omega)]
/-- the heap of the reference after the lanes and the ticks -/
def rtH (h2 : Hp) (m s a b d ln : Nat) (c : Int32) : Hp := tkH (lcH h2 m s a b d ln ln) m s d c
theorem rt_I (h2 : Hp) (m s a b d ln : Nat) (c : Int32) (f k : Nat) : hI (rtH h2 m s a b d ln c) f k = hI h2 f k := by unfold rtH tkH lcH; rw [qI_oA, qI_oA]
theorem rt_A {h2 : Hp} {m s a b d ln : Nat} {c : Int32} {k j : Nat} (n1 : ¬ k = (m + 12)) (n2 : ¬ k = (m + 11)) : hA (rtH h2 m s a b d ln c) k j = lcN (hA h2) m s d ln (gpB h2 m) (dsB h2 m) (lcF h2 m s a) (lcR h2 m s a b ln) (lcQ h2 m s a b d) (lE (hI h2 756 m)) (lW (hI h2 756 m)) k j := by
  unfold rtH tkH
  rw [qA_oA]
  unfold tkG
  rw [if_neg (fun y => n1 y.1), if_neg (fun y => n2 y.1)]
  unfold lcH
  rw [qA_oA]
theorem rt_o {h2 : Hp} {m s a b d ln : Nat} {c : Int32} {k j : Nat} (n1 : ¬ ((m + 11) ≤ k ∧ k ≤ (m + 17))) : hA (rtH h2 m s a b d ln c) k j = hA h2 k j := by
  rw [rt_A (by omega) (by omega), lcN_o (by omega)]
theorem rt_far {h2 : Hp} {m s t a b d ln : Nat} {c : Int32} (l32 : ln ≤ 32) (ld : d < 16) (ne : ¬ t = s) : Rs m t h2 (rtH h2 m s a b d ln c) := by
  have p1 := pn_lt (nI d)
  refine ⟨⟨rt_I .., rt_I ..⟩, ⟨rt_o (by omega), rt_o (by omega), ?_⟩, fun r hr => ?_, fun i hi => ⟨?_, ?_, ?_, ?_⟩, fun j hj => ?_⟩
  · unfold rtH tkH
    rw [qA_oA]
    unfold tkG
    rw [if_neg (fun y => by have := y.1; omega), if_neg (fun y => ne y.2.2)]
    unfold lcH
    rw [qA_oA, lcN_o (by omega)]
  · unfold rtH tkH
    rw [qA_oA]
    unfold tkG
    rw [if_neg (fun y => by rcases y.2 with z | z <;> have := z.2 <;> omega), if_neg (fun y => by have := y.1; omega)]
    unfold lcH
    rw [qA_oA, lcN_o (by omega)]
  · rw [rt_A (by omega) (by omega), lcN_pr (fun k hk => by omega)]
  · rw [rt_A (by omega) (by omega), lcN_pl (fun k hk => by omega)]
  · rw [rt_A (by omega) (by omega), lcN_en (fun k hk => by omega)]
  · rw [rt_A (by omega) (by omega), lcN_wa (fun k hk => by omega)]
  · rw [rt_A (by omega) (by omega), lcN_rg (fun k hk => by omega)]
theorem Rs.trans {m s : Nat} {h k l : Hp} (A : Rs m s h k) (B : Rs m s k l) : Rs m s h l := ⟨⟨by rw [B.1.1, A.1.1], by rw [B.1.2, A.1.2]⟩, ⟨by rw [B.2.1.1, A.2.1.1], by rw [B.2.1.2.1, A.2.1.2.1], by rw [B.2.1.2.2, A.2.1.2.2]⟩, fun r hr => by rw [B.2.2.1 r hr, A.2.2.1 r hr], fun i hi => ⟨by rw [(B.2.2.2.1 i hi).1, (A.2.2.2.1 i hi).1], by rw [(B.2.2.2.1 i hi).2.1, (A.2.2.2.1 i hi).2.1], by rw [(B.2.2.2.1 i hi).2.2.1, (A.2.2.2.1 i hi).2.2.1], by rw [(B.2.2.2.1 i hi).2.2.2, (A.2.2.2.1 i hi).2.2.2]⟩, fun j hj => by rw [B.2.2.2.2 j hj, A.2.2.2.2 j hj]⟩
/-- who is alive after it: of another block as before -/
theorem av_other {H kr : Hp} {m s b c t : Nat} (ht : t < 4096) (R : ∀ t, t < 128 → ¬ t = s → Rs m t H kr) (sb : hA H (m + 9) s = nI b) (sb2 : hA kr (m + 9) s = nI b) (hb : b < 64) (hc : c < 64) (ne : ¬ c = b) : avB kr m c t = avB H m c t ∧ wtB kr m c t = wtB H m c t := by
  by_cases e : t / 32 = s
  · have n1 : ¬ nI b = nI c := fun z => ne ((nI_eq (by omega) (by omega)).mp z).symm
    unfold avB wtB
    rw [e, sb, sb2, decide_eq_false n1]
    exact ⟨rfl, rfl⟩
  · have r := R (t / 32) (by omega) e
    have r2 := r.2.2.2.1 (t % 32) (by omega)
    rw [show 32 * (t / 32) + t % 32 = t by omega] at r2
    unfold avB wtB
    rw [r.2.1.1, r2.2.2.1, r2.2.2.2, show decide (rLn kr m (t / 32) (t % 32)) = decide (rLn H m (t / 32) (t % 32)) from decide_eq_decide.mpr (rLn_rs r)]
    exact ⟨rfl, rfl⟩
/-- of the same block: those that the word takes are no more -/
theorem av_same {H kr : Hp} {m s b t : Nat} {dm : Int32} {q0 q1 : Prop} [Decidable q0] [Decidable q1] (ht : t < 4096) (hs : s < 128) (R : ∀ t, t < 128 → ¬ t = s → Rs m t H kr) (sb : hA H (m + 9) s = nI b) (sb2 : hA kr (m + 9) s = nI b) (rl : ∀ i, rLn kr m s i ↔ rLn H m s i) (en : ∀ i, i < 32 → (hA kr (m + 16) (32 * s + i) = 0 ↔ hA H (m + 16) (32 * s + i) = 0 ∧ ¬ (q0 ∧ bt dm i = true))) (wa : ∀ i, i < 32 → (¬ hA kr (m + 17) (32 * s + i) = 0 ↔ ¬ hA H (m + 17) (32 * s + i) = 0 ∨ (q1 ∧ bt dm i = true))) (aw : ∀ i, i < 32 → bt dm i = true → rAw H m s i) : (avB H m b t = (avB kr m b t || (decide q0 && (decide (t / 32 = s) && bt dm (t % 32)))) ∧ (avB kr m b t && (decide q0 && (decide (t / 32 = s) && bt dm (t % 32)))) = false) ∧ (wtB kr m b t = (wtB H m b t || (decide q1 && (decide (t / 32 = s) && bt dm (t % 32)))) ∧ (wtB H m b t && (decide q1 && (decide (t / 32 = s) && bt dm (t % 32)))) = false) := by
  by_cases e : t / 32 = s
  · have em : 32 * s + t % 32 = t := by omega
    have en2 := en (t % 32) (by omega)
    have wa2 := wa (t % 32) (by omega)
    have aw2 := aw (t % 32) (by omega)
    rw [em] at en2 wa2
    unfold rAw at aw2
    rw [em] at aw2
    unfold avB wtB
    rw [e, sb, sb2, show decide (rLn kr m s (t % 32)) = decide (rLn H m s (t % 32)) from decide_eq_decide.mpr (rl _)]
    by_cases d : bt dm (t % 32) = true
    · obtain ⟨a1, a2, a3⟩ := aw2 d
      rw [decide_eq_true a1, decide_eq_true a2, d, decide_eq_false (show ¬ ¬ hA H (m + 17) t = 0 from fun z => z a3)]
      by_cases h0 : q0
      · rw [decide_eq_false (show ¬ hA kr (m + 16) t = 0 from fun z => (en2.mp z).2 ⟨h0, d⟩), decide_eq_true h0]
        by_cases h1 : q1
        · rw [decide_eq_true (wa2.mpr (Or.inr ⟨h1, d⟩)), decide_eq_true h1]; simp
        · rw [decide_eq_false (show ¬ ¬ hA kr (m + 17) t = 0 from fun z => (wa2.mp z).elim (fun y => y a3) (fun y => h1 y.1)), decide_eq_false h1]; simp
      · rw [decide_eq_true (en2.mpr ⟨a2, fun z => h0 z.1⟩), decide_eq_false h0]
        by_cases h1 : q1
        · rw [decide_eq_true (wa2.mpr (Or.inr ⟨h1, d⟩)), decide_eq_true h1]; simp
        · rw [decide_eq_false (show ¬ ¬ hA kr (m + 17) t = 0 from fun z => (wa2.mp z).elim (fun y => y a3) (fun y => h1 y.1)), decide_eq_false h1]; simp
    · have d0 : bt dm (t % 32) = false := by simpa using d
      have e1 : decide (hA kr (m + 16) t = 0) = decide (hA H (m + 16) t = 0) := decide_eq_decide.mpr ⟨fun z => (en2.mp z).1, fun z => en2.mpr ⟨z, fun y => d y.2⟩⟩
      have e2 : decide (¬ hA kr (m + 17) t = 0) = decide (¬ hA H (m + 17) t = 0) := decide_eq_decide.mpr ⟨fun z => (wa2.mp z).elim id (fun y => absurd y.2 d), fun z => wa2.mpr (Or.inl z)⟩
      rw [e1, e2, d0]
      simp
  · have r := R (t / 32) (by omega) e
    have r2 := r.2.2.2.1 (t % 32) (by omega)
    rw [show 32 * (t / 32) + t % 32 = t by omega] at r2
    have ea : avB kr m b t = avB H m b t := by
      unfold avB
      rw [r.2.1.1, r2.2.2.1, show decide (rLn kr m (t / 32) (t % 32)) = decide (rLn H m (t / 32) (t % 32)) from decide_eq_decide.mpr (rLn_rs r)]
    have ew : wtB kr m b t = wtB H m b t := by
      unfold wtB
      rw [r.2.1.1, r2.2.2.2]
    rw [ea, ew, decide_eq_false e]
    simp
theorem cn_take {P Q : Nat → Bool} {q : Prop} [Decidable q] {s : Nat} {dm : Int32} (hs : s < 128) (h : ∀ t, t < 4096 → P t = (Q t || (decide q && (decide (t / 32 = s) && bt dm (t % 32)))) ∧ (Q t && (decide q && (decide (t / 32 = s) && bt dm (t % 32)))) = false) : cn P 4096 = cn Q 4096 + (if q then cn (bt dm) 32 else 0) := by
  have e1 := cn_or 4096 h
  rw [e1]
  refine congrArg (cn Q 4096 + ·) ?_
  by_cases z : q
  · rw [if_pos z, ← cn_slot (bt dm) hs]
    exact cn_congr 4096 fun t _ => by rw [decide_eq_true z, Bool.true_and]
  · rw [if_neg z]
    exact cn_0 4096 fun t _ => by rw [decide_eq_false z, Bool.false_and]
