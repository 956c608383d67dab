/-! which warp of a unit goes -/
theorem aA_scr {h k : Hp} {m s : Nat} (S : Scr m h k) : aA k m s = aA h m s := by
  funext i
  have : rAw k m s i ↔ rAw h m s i := rAw_same (S.i (by decide)) (S.i (by decide)) (S.a (by omega) _) (S.a (by omega) _) (S.a (by omega) _)
  unfold aA
  by_cases q : rAw h m s i
  · rw [decide_eq_true q, decide_eq_true (this.mpr q)]
  · rw [decide_eq_false q, decide_eq_false (fun z => q (this.mp z))]
theorem aP_scr {h k : Hp} {m s : Nat} (S : Scr m h k) : aP k m s = aP h m s := funext fun i => S.a (by omega) _
theorem rRdy_scr {h k : Hp} {m u s ln : Nat} (S : Scr m h k) : rRdy k m u s ln ↔ rRdy h m u s ln := by
  unfold rRdy rOk2 rT
  rw [aA_scr S, aP_scr S, S.a (a := (m + 9)) (by omega), S.1.2.2.2.2.2.2, S.i (f := 719) (by decide), S.a (a := (m + 5)) (by omega), S.a (a := (m + 6)) (by omega), S.a (a := (m + 11)) (by omega)]
  simp only [S.a (a := (m + 12)) (by omega)]
theorem r_pick {F : Nat} {h : Hp} {m u ln sl l : Nat} (M : Md h m) (hF : 40000 ≤ F) (hu : u < 8) (hl : hI h 705 m = nI ln) (l32 : ln ≤ 32) (hsl : hI h 706 m = nI sl) (s16 : sl ≤ 16) (hlat : hA h (m + 7) u = nI l) (ls : l < sl) : ∀ K, K ≤ sl → (∀ k, k < K → ¬ rRdy h m u (16 * u + (l + (k + 1)) % sl) ln) → ∃ H, Scr m h H ∧ f_Mod_unitGoes F m (nI u) h = b_Mod_unitGoes_2 F (F - K) m (nI u) (nI (K + 1)) H := by
  intro K
  induction K with
  | zero => intro _ _; exact ⟨h, Rf.refl h, rfl⟩
  | succ K ih =>
    intro hKl nr
    obtain ⟨H, S, e⟩ := ih (by omega) (fun k hk => nr k (by omega))
    have M2 : Md H m := S.md M
    have hm : (l + (K + 1)) % sl < sl := Nat.mod_lt _ (by omega)
    have hs : 16 * u + (l + (K + 1)) % sl < 128 := by omega
    have hsl2 : hI H 706 m = nI sl := by rw [S.i (by decide)]; exact hsl
    have hlat2 : hA H (m + 7) u = nI l := by rw [S.a (by omega)]; exact hlat
    obtain ⟨v, k, q1, q2, q3, -⟩ := c_Mod_isReady (F := F) (u := u) M2 hF hs hu (by rw [S.i (by decide)]; exact hl) l32
    have q0 : v = 0 := by
      rcases q2 with q2 | q2
      · exact absurd ((rRdy_scr S).mp q2.2) (nr K (by omega))
      · exact q2.1
    refine ⟨k, S.trans q3, ?_⟩
    rw [e, show F - K = (F - (K + 1)) + 1 by omega]
    have c : ¬ nI sl < nI (K + 1) := nI_nlt (by omega) (by omega)
    have ne : ¬ nI sl = 0 := nI_ne0 (by omega) (by omega)
    have er : nI (l + (K + 1)) - nI (l + (K + 1)) / nI sl * nI sl = nI ((l + (K + 1)) % sl) := pk_rem (by omega) (by omega) (by omega)
    rw [b_Mod_unitGoes_2]
    dsimp only
    rw [gd_t M2.k, hsl2, if_neg c, rq_k M2.r_latest M2.k_latest, M2.n_latest, ixn hu (by decide), hlat2, gd_t ne, nI_add, er, n_16, nI_add, q1, cl_some, q0, if_pos rfl, nI_1]
theorem r_pick_none {F : Nat} {h : Hp} {m u ln sl l : Nat} (M : Md h m) (hF : 40000 ≤ F) (hu : u < 8) (hl : hI h 705 m = nI ln) (l32 : ln ≤ 32) (hsl : hI h 706 m = nI sl) (s16 : sl ≤ 16) (hlat : hA h (m + 7) u = nI l) (ls : l < sl) (nr : ∀ k, k < sl → ¬ rRdy h m u (16 * u + (l + (k + 1)) % sl) ln) : ∃ H, Scr m h H ∧ f_Mod_unitGoes F m (nI u) h = some H := by
  obtain ⟨H, S, e⟩ := r_pick (F := F) M hF hu hl l32 hsl s16 hlat ls sl (Nat.le_refl _) nr
  refine ⟨H, S, ?_⟩
  have M2 : Md H m := S.md M
  have hsl2 : hI H 706 m = nI sl := by rw [S.i (by decide)]; exact hsl
  rw [e, show F - sl = (F - sl - 1) + 1 by omega, b_Mod_unitGoes_2]
  dsimp only
  rw [gd_t M2.k, hsl2, if_pos (nI_lt (by omega) (by omega))]
theorem r_pick_some {F : Nat} {h : Hp} {m u ln sl l K : Nat} (M : Md h m) (hF : 40000 ≤ F) (hu : u < 8) (hl : hI h 705 m = nI ln) (l32 : ln ≤ 32) (hsl : hI h 706 m = nI sl) (s16 : sl ≤ 16) (hlat : hA h (m + 7) u = nI l) (ls : l < sl) (hKl : K < sl) (nr : ∀ k, k < K → ¬ rRdy h m u (16 * u + (l + (k + 1)) % sl) ln) (yr : rRdy h m u (16 * u + (l + (K + 1)) % sl) ln) : ∃ H, Scr m h H ∧ (∀ i, i < 32 → hA H (m + 26) i = gG h m (16 * u + (l + (K + 1)) % sl) ln i) ∧ f_Mod_unitGoes F m (nI u) h = clv (f_Mod_go F m (nI u) (nI (16 * u + (l + (K + 1)) % sl)) (sA H (m + 7) u (nI ((l + (K + 1)) % sl)))) (fun h_56 => some h_56) := by
  obtain ⟨H, S, e⟩ := r_pick (F := F) M hF hu hl l32 hsl s16 hlat ls K (by omega) nr
  have M2 : Md H m := S.md M
  have hm : (l + (K + 1)) % sl < sl := Nat.mod_lt _ (by omega)
  have hs : 16 * u + (l + (K + 1)) % sl < 128 := by omega
  have hsl2 : hI H 706 m = nI sl := by rw [S.i (by decide)]; exact hsl
  have hlat2 : hA H (m + 7) u = nI l := by rw [S.a (by omega)]; exact hlat
  obtain ⟨v, k, q1, q2, q3, q4⟩ := c_Mod_isReady (F := F) (u := u) M2 hF hs hu (by rw [S.i (by decide)]; exact hl) l32
  have q0 : v = 1 := by
    rcases q2 with q2 | q2
    · exact q2.1
    · exact absurd ((rRdy_scr S).mpr yr) q2.2
  have M3 : Md k m := q3.md M2
  refine ⟨k, S.trans q3, fun i hi => ?_, ?_⟩
  · rw [q4 q0 i hi]
    unfold gG
    rw [aA_scr S, aP_scr S]
  · have c : ¬ nI sl < nI (K + 1) := nI_nlt (by omega) (by omega)
    have ne : ¬ nI sl = 0 := nI_ne0 (by omega) (by omega)
    have er : nI (l + (K + 1)) - nI (l + (K + 1)) / nI sl * nI sl = nI ((l + (K + 1)) % sl) := pk_rem (by omega) (by omega) (by omega)
    rw [e, show F - K = (F - K - 1) + 1 by omega, b_Mod_unitGoes_2]
    dsimp only
    rw [gd_t M2.k, hsl2, if_neg c, rq_k M2.r_latest M2.k_latest, M2.n_latest, ixn hu (by decide), hlat2, gd_t ne, nI_add, er, n_16, nI_add, q1, cl_some, q0, if_neg (by decide), gd_t M3.k, rq_k M3.r_latest M3.k_latest, M3.n_latest, ixn hu (by decide)]
    rfl
/-! the class -/
theorem pw_e {α β : Type} {x : α} {k : α → Option β} : pw x k = k x := rfl
def bz (h : Hp) (wa k : Nat) : Option Nat := match hQ h wa k with
  | none => none
  | some w => match hR h 512 w with
    | none => none
    | some _ => some w
theorem bz_some {h : Hp} {wa k w b : Nat} (e1 : hQ h wa k = some w) (e2 : hR h 512 w = some b) : bz h wa k = some w := by
  unfold bz
  rw [e1]
  simp only
  rw [e2]
theorem c_Unit_busy {F : Nat} {h : Hp} {u wa sl k : Nat} (ku : hK h u = 7) (r : hR h 384 u = some wa) (kw : hK h wa = 123) (n16 : hN h wa = 16) (hs : hI h 386 u = nI sl) (s16 : sl ≤ 16) (hk : k < sl) (kk : ∀ w, hQ h wa k = some w → hK h w = 9) : f_Unit_busy F u (nI k) h = some (bz h wa k, h) := by
  have c0 : ¬ nI k < 0 := nI_pos (by omega)
  have c1 : ¬ nI sl ≤ nI k := nI_ge hk (by omega)
  have c2 : nI k < nI 16 := nI_lt (by omega) (by decide)
  rw [f_Unit_busy, if_neg c0, gd_t ku, hs, if_neg c1, rq_k r kw, n16, if_pos c2, ixn (by omega) (by decide)]
  unfold bz
  cases e : hQ h wa k with
  | none => rw [pw_e]; rfl
  | some w =>
    rw [pw_e, nu_some, gd_t (kk w e), pw_e]
    cases e2 : hR h 512 w with
    | none => simp only [nu_none, e2]
    | some b => simp only [nu_some, e2]
theorem c_Unit_busy_o {F : Nat} {h : Hp} {u : Nat} {sl : Nat} {k : Int32} (ku : hK h u = 7) (hs : hI h 386 u = nI sl) (hk : k < 0 ∨ nI sl ≤ k) : f_Unit_busy F u k h = some (none, h) := by
  by_cases c0 : k < 0
  · rw [f_Unit_busy, if_pos c0]
  · rw [f_Unit_busy, if_neg c0, gd_t ku, hs, if_pos (hk.resolve_left c0)]
/-- a slot of the class is ready -/
def cSl (h : Hp) (u wa k : Nat) (c : Int32) : Prop := ∃ w, bz h wa k = some w ∧ cRdy h u w c
theorem c_pick {F : Nat} {h : Hp} {u wa sl l : Nat} {c : Int32} (hF : 40000 ≤ F) (ku : hK h u = 7) (r : hR h 384 u = some wa) (kw : hK h wa = 123) (n16 : hN h wa = 16) (hs : hI h 386 u = nI sl) (s16 : sl ≤ 16) (hl : hI h 388 u = nI l) (ls : l < sl) (kk : ∀ k w, k < sl → hQ h wa k = some w → hK h w = 9) (kv : ∀ k w a, k < sl → bz h wa k = some w → hR h 520 w = some a → hK h a = 10) : ∀ K, K ≤ sl → (∀ k, k < K → ¬ cSl h u wa ((l + (k + 1)) % sl) c) → f_Unit_choose F u c h = b_Unit_choose_7 F (F - K) u c (nI ((l + K) % sl)) (nI K) h := by
  intro K
  induction K with
  | zero =>
    intro _ _
    rw [f_Unit_choose, gd_t ku, hl, Nat.add_zero, Nat.mod_eq_of_lt ls]
    rfl
  | succ K ih =>
    intro hKl nr
    rw [ih (by omega) (fun k hk => nr k (by omega)), show F - K = (F - (K + 1)) + 1 by omega]
    have hm : (l + (K + 1)) % sl < sl := Nat.mod_lt _ (by omega)
    have hm0 : (l + K) % sl < sl := Nat.mod_lt _ (by omega)
    have c1 : ¬ nI sl ≤ nI K := nI_ge (by omega) (by omega)
    have nr' := nr K (by omega)
    have st : b_Unit_choose_32 F (b_Unit_choose_7 F (F - (K + 1))) u c (nI K) (nI ((l + (K + 1)) % sl)) h = b_Unit_choose_7 F (F - (K + 1)) u c (nI ((l + (K + 1)) % sl)) (nI (K + 1)) h := by
      rw [b_Unit_choose_32, gd_t ku, c_Unit_busy ku r kw n16 hs s16 hm (fun w => kk _ w hm), cl_some, nI_1]
      cases e : bz h wa ((l + (K + 1)) % sl) with
      | none => rfl
      | some w =>
        have kw' : hK h w = 9 := by
          unfold bz at e
          cases e2 : hQ h wa ((l + (K + 1)) % sl) with
          | none => rw [e2] at e; cases e
          | some w' =>
            have := kk _ w' hm e2
            rw [e2] at e
            simp only at e
            split at e
            · cases e
            · cases e; exact this
        obtain ⟨v, q1, q2⟩ := c_Unit_isReady (F := F) (c := c) kw' ku (fun a => kv _ w a hm e)
        have v0 : v = 0 := by
          rcases q2 with q2 | q2
          · exact absurd ⟨w, e, q2.2⟩ nr'
          · exact q2.1
        rw [nu_some, gd_t ku, q1, cl_some, if_pos v0]
    rw [b_Unit_choose_7]
    dsimp only
    rw [gd_t ku, hs, if_neg c1]
    by_cases cw : (l + K) % sl + 1 < sl
    · have em : (l + (K + 1)) % sl = (l + K) % sl + 1 := by
        rw [← Nat.add_assoc, Nat.add_mod]
        by_cases s1 : sl = 1
        · omega
        · rw [Nat.mod_eq_of_lt (show 1 < sl by omega), Nat.mod_eq_of_lt cw]
      rw [nI_1, if_neg (nI_ge cw (by omega)), ← em]
      exact st
    · have em : (l + (K + 1)) % sl = 0 := by
        have e1 : (l + K) % sl + 1 = sl := by omega
        have := Nat.div_add_mod (l + K) sl
        have e2 : l + (K + 1) = sl * ((l + K) / sl + 1) := by rw [Nat.mul_add, Nat.mul_one]; omega
        rw [e2, Nat.mul_mod_right]
      rw [nI_1, if_pos (nI_le (by omega) (by omega)), ← nI_0, ← em]
      exact st
theorem c_pick_none {F : Nat} {h : Hp} {u wa sl l : Nat} {c : Int32} (hF : 40000 ≤ F) (ku : hK h u = 7) (r : hR h 384 u = some wa) (kw : hK h wa = 123) (n16 : hN h wa = 16) (hs : hI h 386 u = nI sl) (s16 : sl ≤ 16) (hl : hI h 388 u = nI l) (ls : l < sl) (kk : ∀ k w, k < sl → hQ h wa k = some w → hK h w = 9) (kv : ∀ k w a, k < sl → bz h wa k = some w → hR h 520 w = some a → hK h a = 10) (nr : ∀ k, k < sl → ¬ cSl h u wa ((l + (k + 1)) % sl) c) : f_Unit_choose F u c h = some (none, h) := by
  rw [c_pick hF ku r kw n16 hs s16 hl ls kk kv sl (Nat.le_refl _) nr, show F - sl = (F - sl - 1) + 1 by omega, b_Unit_choose_7]
  dsimp only
  rw [gd_t ku, hs, if_pos (nI_le (Nat.le_refl _) (by omega))]
theorem c_pick_some {F : Nat} {h : Hp} {u wa sl l K w : Nat} {c : Int32} (hF : 40000 ≤ F) (ku : hK h u = 7) (r : hR h 384 u = some wa) (kw : hK h wa = 123) (n16 : hN h wa = 16) (hs : hI h 386 u = nI sl) (s16 : sl ≤ 16) (hl : hI h 388 u = nI l) (ls : l < sl) (kk : ∀ k w, k < sl → hQ h wa k = some w → hK h w = 9) (kv : ∀ k w a, k < sl → bz h wa k = some w → hR h 520 w = some a → hK h a = 10) (hKl : K < sl) (nr : ∀ k, k < K → ¬ cSl h u wa ((l + (k + 1)) % sl) c) (ew : bz h wa ((l + (K + 1)) % sl) = some w) (kw' : hK h w = 9) (yr : cRdy h u w c) : f_Unit_choose F u c h = some (some w, sI h 388 u (nI ((l + (K + 1)) % sl))) := by
  rw [c_pick hF ku r kw n16 hs s16 hl ls kk kv K (by omega) nr, show F - K = (F - (K + 1)) + 1 by omega]
  have hm : (l + (K + 1)) % sl < sl := Nat.mod_lt _ (by omega)
  have hm0 : (l + K) % sl < sl := Nat.mod_lt _ (by omega)
  have c1 : ¬ nI sl ≤ nI K := nI_ge (by omega) (by omega)
  have st : b_Unit_choose_32 F (b_Unit_choose_7 F (F - (K + 1))) u c (nI K) (nI ((l + (K + 1)) % sl)) h = some (some w, sI h 388 u (nI ((l + (K + 1)) % sl))) := by
    obtain ⟨v, q1, q2⟩ := c_Unit_isReady (F := F) (c := c) kw' ku (fun a => kv _ w a hm ew)
    have v0 : v = 1 := by
      rcases q2 with q2 | q2
      · exact q2.1
      · exact absurd yr q2.2
    rw [b_Unit_choose_32, gd_t ku, c_Unit_busy ku r kw n16 hs s16 hm (fun w => kk _ w hm), cl_some, ew, nu_some, gd_t ku, q1, cl_some, v0, if_neg (by decide), gd_t ku]
    rfl
  rw [b_Unit_choose_7]
  dsimp only
  rw [gd_t ku, hs, if_neg c1]
  by_cases cw : (l + K) % sl + 1 < sl
  · have em : (l + (K + 1)) % sl = (l + K) % sl + 1 := by
      rw [← Nat.add_assoc, Nat.add_mod]
      by_cases s1 : sl = 1
      · omega
      · rw [Nat.mod_eq_of_lt (show 1 < sl by omega), Nat.mod_eq_of_lt cw]
    rw [nI_1, if_neg (nI_ge cw (by omega)), ← em]
    exact st
  · have em : (l + (K + 1)) % sl = 0 := by
      have e1 : (l + K) % sl + 1 = sl := by omega
      have := Nat.div_add_mod (l + K) sl
      have e2 : l + (K + 1) = sl * ((l + K) / sl + 1) := by rw [Nat.mul_add, Nat.mul_one]; omega
      rw [e2, Nat.mul_mod_right]
    rw [nI_1, if_pos (nI_le (by omega) (by omega)), ← nI_0, ← em]
    exact st
