/-! the reference's word: who does it, who can't -/
abbrev gpB (h : Hp) (m i : Nat) : Bool := decide (¬ hA h (m + 26) i = 0)
/-- a lane does the word -/
def dD (h : Hp) (m s i : Nat) : Bool := gpB h m i && (decide (hI h 760 m < 8) || (decide (rHas h m (32 * s + i) (hI h 760 m)) != decide (¬ (hI h 760 m &&& 4) = 0)))
theorem go141 {F : Nat} {H : Hp} {m i : Nat} (M : Md H m) (hi : i < 32) (k73 : Nat → Int32 → Int32 → Int32 → Int32 → Int32 → Hp → Option Hp) (x1 x2 x5 x6 v : Int32) (hv : v = 0 ∨ v = 1) : b_Mod_go_141 F k73 m x1 x2 x5 x6 (nI i) (m + 27) (nI i) v H = k73 m x1 x2 (x5 + v) (x6 + bI (gpB H m i = true)) (nI (i + 1)) (sA H (m + 27) i v) := by
  have M1 : Md (sA H (m + 27) i v) m := M.tsA
  have g1 : hA (sA H (m + 27) i v) (m + 26) i = hA H (m + 26) i := by rw [qA_sA, if_neg (by omega)]
  have e159 : ∀ s1, b_Mod_go_159 F k73 m x1 x2 x6 (nI i) x5 s1 (sA H (m + 27) i v) = k73 m x1 x2 (x5 + s1) (x6 + bI (gpB H m i = true)) (nI (i + 1)) (sA H (m + 27) i v) := by
    intro s1
    rw [b_Mod_go_159, gd_t M1.k, rq_k M1.r_inGroup M1.k_inGroup, M1.n_inGroup, ixn hi (by decide), g1, nI_1]
    by_cases g0 : hA H (m + 26) i = 0
    · rw [if_pos g0, bI_f (show ¬ gpB H m i = true from fun z => (of_decide_eq_true z) g0)]
    · rw [if_neg g0, bI_t (show gpB H m i = true from decide_eq_true g0)]
  have rd : hA (sA H (m + 27) i v) (m + 27) i = v := by rw [qA_sA, if_pos ⟨rfl, rfl⟩]
  rw [b_Mod_go_141, gd_t M.k_does, M.n_does, ixn hi (by decide), gd_t hv, pw_e, gd_t M1.k, rq_k M1.r_does M1.k_does, M1.n_does, ixn hi (by decide), rd, e159, e159]
  rcases hv with z | z
  · subst z
    rw [if_pos rfl]
  · subst z
    rw [if_neg (by decide)]
def ddH (h : Hp) (m s i : Nat) : Hp := oA h (fr (hA h) (m + 27) 0 i (fun j => bI (dD h m s j = true)))
theorem cn_s (P : Nat → Bool) (i : Nat) : nI (cn P i) + bI (P i = true) = nI (cn P (i + 1)) := by
  show _ = nI (cn P i + if P i then 1 else 0)
  by_cases q : P i = true
  · rw [bI_t q, if_pos q, nI_1]
  · rw [bI_f q, if_neg q, Nat.add_zero]
    exact nI_add _ 0
theorem l_go73 {F : Nat} {h : Hp} {m s : Nat} (M : Md h m) (hF : 40000 ≤ F) (hs : s < 128) (x1 : Int32) : b_Mod_go_73 F F m x1 (nI s) 0 0 0 h = b_Mod_go_191 F F m x1 (nI s) (nI (cn (dD h m s) 32)) (nI (cn (gpB h m) 32)) 0 (ddH h m s 32) := by
  have st := iterF (fun n i => b_Mod_go_73 F n m x1 (nI s) (nI (cn (dD h m s) i)) (nI (cn (gpB h m) i)) (nI i) (ddH h m s i)) 32 (fun i n hi => by
    have c : ¬ (32 : Int32) ≤ nI i := nI_ge hi (by decide)
    have Mi : Md (ddH h m s i) m := M.toA
    have g1 : hA (ddH h m s i) (m + 26) i = hA h (m + 26) i := by unfold ddH; rw [qA_oA, fr_o (by omega)]
    have p1 : ∀ t, hA (ddH h m s i) (m + 14) t = hA h (m + 14) t := fun t => by unfold ddH; rw [qA_oA, fr_o (by omega)]
    have i1 : ∀ f, hI (ddH h m s i) f m = hI h f m := fun f => by unfold ddH; rw [qI_oA]
    have gq : gpB (ddH h m s i) m i = gpB h m i := by unfold gpB; rw [g1]
    have nx : ∀ v, v = bI (dD h m s i = true) → b_Mod_go_141 F (b_Mod_go_73 F n) m x1 (nI s) (nI (cn (dD h m s) i)) (nI (cn (gpB h m) i)) (nI i) (m + 27) (nI i) v (ddH h m s i) = b_Mod_go_73 F n m x1 (nI s) (nI (cn (dD h m s) (i + 1))) (nI (cn (gpB h m) (i + 1))) (nI (i + 1)) (ddH h m s (i + 1)) := by
      intro v ev
      rw [go141 Mi hi _ _ _ _ _ v (by rw [ev]; exact bI_01 _), gq, cn_s, ev, cn_s]
      congr 1
      unfold ddH
      rw [sA_oA]
      exact oA_eq fun a j => by rw [fr_up _ _ _ _ (fun j => bI (dD h m s j = true)) (by omega)]
    rw [b_Mod_go_73]
    dsimp only
    rw [if_neg c, gd_t Mi.k, rq_k Mi.r_does Mi.k_does, rq_k Mi.r_inGroup Mi.k_inGroup, Mi.n_inGroup, ixn hi (by decide), g1, i1]
    by_cases g0 : hA h (m + 26) i = 0
    · have d0 : dD h m s i = false := by
        unfold dD
        rw [show gpB h m i = false from decide_eq_false (fun z => z g0), Bool.false_and]
      rw [if_pos g0, b_Mod_go_140, nx 0 (by rw [d0]; rfl)]
    · have gt : gpB h m i = true := decide_eq_true g0
      rw [if_neg g0]
      by_cases g8 : hI h 760 m < 8
      · have d1 : dD h m s i = true := by
          unfold dD
          rw [gt, decide_eq_true g8]
          rfl
        rw [if_pos g8, b_Mod_go_136, nx 1 (by rw [d1]; rfl)]
      · have d1 : dD h m s i = (decide (rHas h m (32 * s + i) (hI h 760 m)) != decide (¬ (hI h 760 m &&& 4) = 0)) := by
          unfold dD
          rw [gt, decide_eq_false g8]
          rfl
        have hh := c_Mod_has (F := F) Mi (t := 32 * s + i) (by omega) (hI h 760 m)
        have hq : rHas (ddH h m s i) m (32 * s + i) (hI h 760 m) ↔ rHas h m (32 * s + i) (hI h 760 m) := by
          unfold rHas
          rw [p1]
        rw [if_neg g8, c_Mod_thread, cl_some, gd_t Mi.k, i1, hh, cl_some, gd_t Mi.k, i1]
        rw [b_Mod_go_133, b_Mod_go_133, b_Mod_go_140, b_Mod_go_136]
        by_cases r : rHas h m (32 * s + i) (hI h 760 m)
        · rw [bI_t (hq.mpr r)]
          by_cases f4 : (hI h 760 m &&& 4) = 0
          · rw [if_pos f4, if_neg (by decide), nx 1 (by rw [d1, decide_eq_true r, decide_eq_false (fun z => z f4)]; rfl)]
          · rw [if_neg f4, if_pos rfl, nx 0 (by rw [d1, decide_eq_true r, decide_eq_true f4]; rfl)]
        · rw [bI_f (fun z => r (hq.mp z))]
          by_cases f4 : (hI h 760 m &&& 4) = 0
          · rw [if_pos f4, if_pos rfl, nx 0 (by rw [d1, decide_eq_false r, decide_eq_false (fun z => z f4)]; rfl)]
          · rw [if_neg f4, if_neg (by decide), nx 1 (by rw [d1, decide_eq_false r, decide_eq_true f4]; rfl)]) (F := F) (by omega)
  have e0 : ddH h m s 0 = h := by unfold ddH; rw [fr_0, oA_self]
  have c : (32 : Int32) ≤ nI 32 := by decide
  rw [show nI (cn (dD h m s) 0) = 0 from rfl, show nI (cn (gpB h m) 0) = 0 from rfl, e0, nI_0] at st
  rw [st, b_Mod_go_73]
  dsimp only
  rw [if_pos c]
/-- why a lane can't do the word -/
def wyN (h : Hp) (m t a b : Nat) : Int32 := if (hI h 756 m = 7 ∨ hI h 756 m = 8) ∧ hA h (m + 13) (16 * t + b) = 0 then 3 else if kMem (hI h 756 m) ∧ (hA h (m + 13) (16 * t + a) + hI h 761 m < 0 ∨ ¬ hA h (m + 13) (16 * t + a) + hI h 761 m < (if kSh (hI h 756 m) then 64 else hI h 710 m)) then 4 else 0
def cGH (h : Hp) (m u : Nat) (x5 x6 : Int32) : Hp := sI (sI (sA (sI h 720 m (hI h 720 m + 1)) (m + 8) u (hA h (m + 8) u + 1)) 721 m (hI h 721 m + x5)) 722 m (hI h 722 m + (if x6 ≤ x5 then 0 else 1))
theorem c_whyN {F : Nat} {h : Hp} {m t a b : Nat} (M : Md h m) (ht : t < 4096) (ha : hI h 758 m = nI a) (la : a < 16) (hb : hI h 759 m = nI b) (lb : b < 16) : f_Mod_whyNot F m (nI t) h = some (wyN h m t a b, h) := c_Mod_whyNot M ht ha la hb lb
theorem l_go191s {F : Nat} {h : Hp} {m u s a b ln : Nat} (M : Md h m) (hF : 40000 ≤ F) (hs : s < 128) (ha : hI h 758 m = nI a) (la : a < 16) (hb : hI h 759 m = nI b) (lb : b < 16) (hl : hI h 705 m = nI ln) (l32 : ln ≤ 32) (x5 x6 : Int32) (i n : Nat) (hi : i < ln) (q : dsB h m i = true → wyN h m (32 * s + i) a b = 0) : b_Mod_go_191 F (n + 1) m (nI u) (nI s) x5 x6 (nI i) h = b_Mod_go_191 F n m (nI u) (nI s) x5 x6 (nI (i + 1)) h := by
  have c : ¬ nI ln ≤ nI i := nI_ge hi (by omega)
  rw [b_Mod_go_191]
  dsimp only
  rw [gd_t M.k, hl, if_neg c, rq_k M.r_does M.k_does, M.n_does, ixn (by omega) (by decide)]
  by_cases d0 : hA h (m + 27) i = 0
  · rw [if_pos d0, b_Mod_go_224, if_pos rfl, nI_1]
  · rw [if_neg d0, c_Mod_thread, cl_some, gd_t M.k, c_whyN M (by omega) ha la hb lb, cl_some, b_Mod_go_224, if_pos (q (decide_eq_true d0)), nI_1]
theorem l_go191t {F : Nat} {h : Hp} {m u s a b ln i : Nat} (M : Md h m) (hF : 40000 ≤ F) (hs : s < 128) (ha : hI h 758 m = nI a) (la : a < 16) (hb : hI h 759 m = nI b) (lb : b < 16) (hl : hI h 705 m = nI ln) (l32 : ln ≤ 32) (x5 x6 : Int32) (hi : i < ln) (d : dsB h m i = true) (y : ¬ wyN h m (32 * s + i) a b = 0) (q : ∀ j, j < i → dsB h m j = true → wyN h m (32 * s + j) a b = 0) : b_Mod_go_191 F F m (nI u) (nI s) x5 x6 0 h = f_Mod_trap F m (nI s) (nI i) (wyN h m (32 * s + i) a b) h := by
  have st := iterF (fun n i => b_Mod_go_191 F n m (nI u) (nI s) x5 x6 (nI i) h) i (fun j n hj => l_go191s M hF hs ha la hb lb hl l32 x5 x6 j n (by omega) (q j hj)) (F := F) (by omega)
  have c : ¬ nI ln ≤ nI i := nI_ge hi (by omega)
  rw [nI_0] at st
  rw [st, b_Mod_go_191]
  dsimp only
  rw [gd_t M.k, hl, if_neg c, rq_k M.r_does M.k_does, M.n_does, ixn (by omega) (by decide), if_neg (of_decide_eq_true d), c_Mod_thread, cl_some, gd_t M.k, c_whyN M (by omega) ha la hb lb, cl_some, b_Mod_go_224, if_neg y, gd_t M.k, c_Mod_trap M hs (by omega), clv_some]
theorem l_go191n {F : Nat} {h : Hp} {m u s a b ln : Nat} (M : Md h m) (hF : 40000 ≤ F) (hs : s < 128) (hu : u < 8) (ha : hI h 758 m = nI a) (la : a < 16) (hb : hI h 759 m = nI b) (lb : b < 16) (hl : hI h 705 m = nI ln) (l32 : ln ≤ 32) (x5 x6 : Int32) (q : ∀ j, j < ln → dsB h m j = true → wyN h m (32 * s + j) a b = 0) {v : Int32} {k : Hp} (et : f_Mod_time F m (nI u) (nI s) h = some (v, k)) (Mk : Md k m) : b_Mod_go_191 F F m (nI u) (nI s) x5 x6 0 h = clv (f_Mod_together F m (nI s) (cGH k m u x5 x6)) (fun h2 => b_Mod_go_318 F F m (nI s) v 0 h2) := by
  have st := iterF (fun n i => b_Mod_go_191 F n m (nI u) (nI s) x5 x6 (nI i) h) ln (fun j n hj => l_go191s M hF hs ha la hb lb hl l32 x5 x6 j n hj (q j hj)) (F := F) (by omega)
  have cL : nI ln ≤ nI ln := nI_le (Nat.le_refl _) (by omega)
  rw [nI_0] at st
  have M1 : Md (sI k 720 m (hI k 720 m + 1)) m := Mk.tsI
  have M2 : ∀ v, Md (sA (sI k 720 m (hI k 720 m + 1)) (m + 8) u v) m := fun v => M1.tsA
  have M3 : ∀ v w, Md (sI (sA (sI k 720 m (hI k 720 m + 1)) (m + 8) u v) 721 m w) m := fun v w => (M2 v).tsI
  have M4 : Md (cGH k m u x5 x6) m := (M3 _ _).tsI
  rw [st, b_Mod_go_191]
  dsimp only
  rw [gd_t M.k, hl, if_pos cL, et, cl_some, gd_t Mk.k, pw_e, rq_k M1.r_unitWords M1.k_unitWords, M1.n_unitWords, ixn hu (by decide), ixn hu (by decide), pw_e, pw_e, b_Mod_go_306, b_Mod_go_306, gd_t (M3 _ _).k, gd_t (M3 _ _).k, pw_e, pw_e]
  have e1 : hI (sI (sA (sI k 720 m (hI k 720 m + 1)) (m + 8) u (hA (sI k 720 m (hI k 720 m + 1)) (m + 8) u + 1)) 721 m (hI (sA (sI k 720 m (hI k 720 m + 1)) (m + 8) u (hA (sI k 720 m (hI k 720 m + 1)) (m + 8) u + 1)) 721 m + x5)) 722 m = hI k 722 m := by
    rw [qI_sI, if_neg (by omega), qI_sA, qI_sI, if_neg (by omega)]
  have e2 : hI (sA (sI k 720 m (hI k 720 m + 1)) (m + 8) u (hA (sI k 720 m (hI k 720 m + 1)) (m + 8) u + 1)) 721 m = hI k 721 m := by
    rw [qI_sA, qI_sI, if_neg (by omega)]
  have e3 : hA (sI k 720 m (hI k 720 m + 1)) (m + 8) u = hA k (m + 8) u := by rw [qA_sI]
  rw [e1, e2, e3]
  by_cases c : x6 ≤ x5
  · rw [if_pos c]
    have e : sI (sI (sA (sI k 720 m (hI k 720 m + 1)) (m + 8) u (hA k (m + 8) u + 1)) 721 m (hI k 721 m + x5)) 722 m (hI k 722 m + 0) = cGH k m u x5 x6 := by
      unfold cGH
      rw [if_pos c]
    rw [e, gd_t M4.k]
  · rw [if_neg c]
    have e : sI (sI (sA (sI k 720 m (hI k 720 m + 1)) (m + 8) u (hA k (m + 8) u + 1)) 721 m (hI k 721 m + x5)) 722 m (hI k 722 m + 1) = cGH k m u x5 x6 := by
      unfold cGH
      rw [if_neg c]
    rw [e, gd_t M4.k]
