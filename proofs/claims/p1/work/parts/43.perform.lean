/-! doing what is on its way, as a function -/
abbrev Ms : Type := (Nat → Int32) × (Nat → Int32)
def th (r : Rq) : Nat := 32 * r.s + r.i
def pf (σ : Ms) (r : Rq) : Ms := (fun p => if p = r.p then lV (nI r.o) (σ.1 r.p) r.y r.w else σ.1 p, fun j => if ¬ r.o = 51 ∧ j = 16 * th r + r.d then σ.1 r.p else σ.2 j)
theorem pf_comm (σ : Ms) (r q : Rq) (h1 : ¬ r.p = q.p) (h2 : ¬ th r = th q) (l1 : r.d < 16) (l2 : q.d < 16) : pf (pf σ r) q = pf (pf σ q) r := by
  unfold pf
  refine Prod.ext ?_ ?_
  · funext p
    dsimp only
    have h1' : ¬ q.p = r.p := fun z => h1 z.symm
    by_cases z1 : p = q.p
    · have : ¬ p = r.p := fun z => h1 (by rw [← z, z1])
      rw [if_pos z1, if_neg h1', if_neg this, if_pos z1]
    · rw [if_neg z1]
      by_cases z2 : p = r.p
      · rw [if_pos z2, if_pos z2, if_neg h1]
      · rw [if_neg z2, if_neg z2, if_neg z1]
  · funext j
    dsimp only
    have h1' : ¬ q.p = r.p := fun z => h1 z.symm
    rw [if_neg h1', if_neg h1]
    by_cases z1 : ¬ q.o = 51 ∧ j = 16 * th q + q.d
    · have : ¬ (¬ r.o = 51 ∧ j = 16 * th r + r.d) := fun z => by omega
      rw [if_pos z1, if_neg this, if_pos z1]
    · rw [if_neg z1]
      by_cases z2 : ¬ r.o = 51 ∧ j = 16 * th r + r.d
      · rw [if_pos z2, if_pos z2]
      · rw [if_neg z2, if_neg z2, if_neg z1]
abbrev pE (p : Nat) (q : Rq) : Bool := decide (q.p = p)
/-- the same for each int -/
def Eqv (L M : List Rq) : Prop := ∀ p, L.filter (pE p) = M.filter (pE p)
theorem flt_cons {f : Rq → Bool} {a : Rq} : ∀ {L l : List Rq}, L.filter f = a :: l → ∃ X Y, L = X ++ a :: Y ∧ (∀ x, x ∈ X → f x = false) ∧ Y.filter f = l := by
  intro L
  induction L with
  | nil => intro l h; cases h
  | cons b L ih =>
    intro l h
    by_cases q : f b = true
    · rw [List.filter_cons_of_pos q] at h
      injection h with h1 h2
      subst h1
      exact ⟨[], L, rfl, (fun x hx => by cases hx), h2⟩
    · rw [List.filter_cons_of_neg q] at h
      obtain ⟨X, Y, e1, e2, e3⟩ := ih h
      refine ⟨b :: X, Y, by rw [e1]; rfl, fun x hx => ?_, e3⟩
      rcases List.mem_cons.mp hx with z | z
      · rw [z]; simpa using q
      · exact e2 x z
theorem Eqv.mem {L M : List Rq} (e : Eqv L M) {r : Rq} : r ∈ L ↔ r ∈ M := by
  have := e r.p
  constructor
  · intro h
    have : r ∈ M.filter (pE r.p) := by rw [← this]; exact List.mem_filter.mpr ⟨h, decide_eq_true rfl⟩
    exact (List.mem_filter.mp this).1
  · intro h
    have : r ∈ L.filter (pE r.p) := by rw [this]; exact List.mem_filter.mpr ⟨h, decide_eq_true rfl⟩
    exact (List.mem_filter.mp this).1
theorem Eqv.filter {L M : List Rq} (e : Eqv L M) (f : Rq → Bool) : Eqv (L.filter f) (M.filter f) := by
  intro p
  have := congrArg (List.filter f) (e p)
  rw [List.filter_filter, List.filter_filter] at this ⊢
  simp only [Bool.and_comm] at this ⊢
  exact this
theorem Eqv.app {L M L2 M2 : List Rq} (e : Eqv L M) (e2 : Eqv L2 M2) : Eqv (L ++ L2) (M ++ M2) := by
  intro p
  rw [List.filter_append, List.filter_append, e p, e2 p]
theorem fold_mv {r : Rq} : ∀ (X : List Rq) (σ : Ms), (∀ x, x ∈ X → ∀ σ, pf (pf σ x) r = pf (pf σ r) x) → pf (X.foldl pf σ) r = X.foldl pf (pf σ r) := by
  intro X
  induction X with
  | nil => intro σ _; rfl
  | cons x X ih =>
    intro σ h
    show pf (X.foldl pf (pf σ x)) r = X.foldl pf (pf (pf σ r) x)
    rw [ih _ (fun y hy => h y (List.mem_cons_of_mem _ hy)), h x (List.mem_cons_self ..)]
theorem fold_eq : ∀ (L M : List Rq), Eqv L M → (L.map th).Nodup → (∀ r, r ∈ L → r.d < 16) → (∀ σ, L.foldl pf σ = M.foldl pf σ) ∧ L.length = M.length := by
  intro L
  induction L with
  | nil =>
    intro M e _ _
    cases M with
    | nil => exact ⟨fun _ => rfl, rfl⟩
    | cons q M =>
      have := e q.p
      rw [List.filter_cons_of_pos (show pE q.p q = true from decide_eq_true rfl)] at this
      cases this
  | cons r L ih =>
    intro M e nd ld
    have e0 := e r.p
    rw [List.filter_cons_of_pos (show pE r.p r = true from decide_eq_true rfl)] at e0
    obtain ⟨X, Y, q1, q2, q3⟩ := flt_cons e0.symm
    rw [List.map_cons] at nd
    obtain ⟨nd1, nd2⟩ := List.nodup_cons.mp nd
    have eX : ∀ x, x ∈ X → ¬ x.p = r.p := fun x hx => of_decide_eq_false (q2 x hx)
    have inL : ∀ x, x ∈ X → x ∈ L := fun x hx => by
      have : x ∈ r :: L := e.mem.mpr (by rw [q1]; exact List.mem_append_left _ hx)
      rcases List.mem_cons.mp this with z | z
      · exact absurd (by rw [z]) (eX x hx)
      · exact z
    have cm : ∀ x, x ∈ X → ∀ σ, pf (pf σ x) r = pf (pf σ r) x := fun x hx σ => pf_comm σ x r (eX x hx) (fun z => nd1 (by rw [← z]; exact List.mem_map.mpr ⟨x, inL x hx, rfl⟩)) (ld x (List.mem_cons_of_mem _ (inL x hx))) (ld r (List.mem_cons_self ..))
    have e2 : Eqv L (X ++ Y) := by
      intro p
      have ep := e p
      rw [q1, List.filter_append] at ep
      rw [List.filter_append]
      by_cases z : r.p = p
      · rw [List.filter_cons_of_pos (show pE p r = true from decide_eq_true z), List.filter_cons_of_pos (show pE p r = true from decide_eq_true z)] at ep
        have : X.filter (pE p) = [] := List.filter_eq_nil_iff.mpr fun x hx => by
          have := eX x hx
          rw [z] at this
          rw [show pE p x = false from decide_eq_false this]
          decide
        rw [this, List.nil_append] at ep ⊢
        injection ep
      · have zn : ¬ pE p r = true := by rw [show pE p r = false from decide_eq_false z]; decide
        rw [List.filter_cons_of_neg zn, List.filter_cons_of_neg zn] at ep
        exact ep
    obtain ⟨i1, i2⟩ := ih (X ++ Y) e2 nd2 (fun x hx => ld x (List.mem_cons_of_mem _ hx))
    refine ⟨fun σ => ?_, ?_⟩
    · show L.foldl pf (pf σ r) = _
      rw [i1, q1, List.foldl_append, List.foldl_append]
      show _ = Y.foldl pf (pf (X.foldl pf σ) r)
      rw [fold_mv X σ cm]
    · rw [q1, List.length_cons, i2, List.length_append, List.length_append, List.length_cons]
      omega
/-! the reference -/
def RqOk (r : Rq) : Prop := r.s < 128 ∧ r.i < 32 ∧ r.b < 64 ∧ r.o < 256 ∧ r.d < 16 ∧ r.p < 4096
def pfR (h : Hp) (m : Nat) (r : Rq) : Hp := if r.o = 51 then sA h (m + 2) r.p (lV (nI r.o) (hA h (m + 2) r.p) r.y r.w) else sA (sA h (m + 2) r.p (lV (nI r.o) (hA h (m + 2) r.p) r.y r.w)) (m + 13) (16 * th r + r.d) (hA h (m + 2) r.p)
theorem c_Mod_doOne {F : Nat} {h : Hp} {m k : Nat} {r : Rq} (M : Md h m) (lk : k < 32768) (R : RqR h m k r) (ok : RqOk r) (sb : hA h (m + 9) r.s = nI r.b) : f_Mod_doOne F m (nI k) h = some (pfR h m r) := by
  obtain ⟨w1, w2, w3, w4, w5, w6⟩ := R
  obtain ⟨o1, o2, o3, o4, o5, o6⟩ := ok
  have e16 : nI (16 * r.o + r.d) / 16 = nI r.o := by
    rw [show (16 : Int32) = nI 16 from rfl, pk_div (by omega) (by decide) (by decide)]
    congr 1
    omega
  have r16 : nI (16 * r.o + r.d) - nI (16 * r.o + r.d) / 16 * 16 = nI r.d := by
    rw [show (16 : Int32) = nI 16 from rfl, pk_rem (by omega) (by decide) (by decide)]
    congr 1
    omega
  have e32 : nI (32 * (128 * r.b + r.s) + r.i) / 32 = nI (128 * r.b + r.s) := by
    rw [show (32 : Int32) = nI 32 from rfl, pk_div (by omega) (by decide) (by decide)]
    congr 1
    omega
  have r32 : nI (32 * (128 * r.b + r.s) + r.i) - nI (32 * (128 * r.b + r.s) + r.i) / 32 * 32 = nI r.i := by
    rw [show (32 : Int32) = nI 32 from rfl, pk_rem (by omega) (by decide) (by decide)]
    congr 1
    omega
  have e128 : nI (128 * r.b + r.s) / 128 = nI r.b := by
    rw [show (128 : Int32) = nI 128 from rfl, pk_div (by omega) (by decide) (by decide)]
    congr 1
    omega
  have r128 : nI (128 * r.b + r.s) - nI (128 * r.b + r.s) / 128 * 128 = nI r.s := by
    rw [show (128 : Int32) = nI 128 from rfl, pk_rem (by omega) (by decide) (by decide)]
    congr 1
    omega
  have n16 : ¬ (16 : Int32) = 0 := by decide
  have n32 : ¬ (32 : Int32) = 0 := by decide
  have n128 : ¬ (128 : Int32) = 0 := by decide
  have M1 : ∀ v, Md (sA h (m + 2) r.p v) m := fun v => M.tsA
  have rd : ∀ v a j, ¬ a = (m + 2) → hA (sA h (m + 2) r.p v) a j = hA h a j := fun v a j z => by rw [qA_sA, if_neg (fun y => z y.1)]
  rw [f_Mod_doOne, gd_t M.k, rq_k M.r_what M.k_what, M.n_what, ixn lk (by decide), gd_t n16, rq_k M.r_memory M.k_memory, rq_k M.r_where M.k_where, M.n_where, ixn lk (by decide), w4, M.n_memory, ixn o6 (by decide), ixn lk (by decide), rq_k M.r_with M.k_with, M.n_with, ixn lk (by decide), rq_k M.r_old M.k_old, M.n_old, ixn lk (by decide), w3, e16, w5, w6, c_Mod_left, cl_some, gd_t M.k_memory, M.n_memory, w4, ixn o6 (by decide), pw_e, gd_t (M1 _).k, rq_k (M1 _).r_who (M1 _).k_who, (M1 _).n_who, ixn lk (by decide), gd_t n32, gd_t n128, rd _ _ _ (by omega), w2, e32, r128]
  unfold pfR
  by_cases c51 : r.o = 51
  · rw [if_pos (show nI r.o = (51 : Int32) from by rw [c51]; rfl), if_pos c51]
  · rw [if_neg (show ¬ nI r.o = (51 : Int32) from fun z => c51 ((nI_eq (a := r.o) (b := 51) (by omega) (by decide)).mp z)), if_neg c51, rq_k (M1 _).r_slotBlock (M1 _).k_slotBlock, (M1 _).n_slotBlock, ixn o1 (by decide), ixn lk (by decide), gd_t n32, gd_t n128, rd _ _ _ (by omega), rd _ _ _ (by omega), w2, e32, e128, if_pos sb, rq_k (M1 _).r_register (M1 _).k_register, ixn lk (by decide), gd_t n32, rd _ _ _ (by omega), w2, r32, c_Mod_thread, cl_some, gd_t (M1 _).k, rq_k (M1 _).r_what (M1 _).k_what, (M1 _).n_what, ixn lk (by decide), gd_t n16, rd _ _ _ (by omega), w3, r16, gd_t (M1 _).k_register, (M1 _).n_register, n_16, nI_add, ixn (by omega) (by decide), pw_e]
    rfl
/-- memory and registers of the reference -/
def msR (h : Hp) (m : Nat) : Ms := (hA h (m + 2), hA h (m + 13))
theorem pfR_ms (h : Hp) (m : Nat) (r : Rq) : msR (pfR h m r) m = pf (msR h m) r := by
  unfold msR pfR pf
  by_cases c : r.o = 51
  · rw [if_pos c]
    refine Prod.ext ?_ ?_
    · funext p
      dsimp only
      rw [qA_sA]
      by_cases z : p = r.p
      · rw [if_pos ⟨rfl, z⟩, if_pos z]
      · rw [if_neg (fun y => z y.2), if_neg z]
    · funext j
      dsimp only
      rw [qA_sA, if_neg (by omega), if_neg (fun y => y.1 c)]
  · rw [if_neg c]
    refine Prod.ext ?_ ?_
    · funext p
      dsimp only
      rw [qA_sA, if_neg (by omega), qA_sA]
      by_cases z : p = r.p
      · rw [if_pos ⟨rfl, z⟩, if_pos z]
      · rw [if_neg (fun y => z y.2), if_neg z]
    · funext j
      dsimp only
      rw [qA_sA]
      by_cases z : j = 16 * th r + r.d
      · rw [if_pos ⟨rfl, z⟩, if_pos ⟨c, z⟩]
      · rw [if_neg (fun y => z y.2), if_neg (fun y => z y.2), qA_sA, if_neg (by omega)]
theorem pfR_f (h : Hp) (m : Nat) (r : Rq) : Rf m (fun _ => False) (fun a => a = (m + 2) ∨ a = (m + 13)) h (pfR h m r) := by
  unfold pfR
  split
  · exact (Rf.refl h).cA (Or.inl rfl)
  · exact ((Rf.refl h).cA (Or.inl rfl)).cA (Or.inr rfl)
/-- one that is kept -/
def mvH (h : Hp) (m k j : Nat) (sn : Int32) : Hp := sA (sA (sA (sA (sA (sA (sI h 746 m sn) (m + 19) k (hA h (m + 19) j)) (m + 20) k (hA h (m + 20) j)) (m + 21) k (hA h (m + 21) j)) (m + 22) k (hA h (m + 22) j)) (m + 23) k (hA h (m + 23) j)) (m + 24) k (hA h (m + 24) j)
theorem mv_78 {F : Nat} {h : Hp} {m k j : Nat} (M : Md h m) (lk : k < 32768) (lj : j < 32768) (k22 : Nat → Int32 → Int32 → Hp → Option Hp) (sn : Int32) : b_Mod_doPending_78 F k22 m (nI k) (nI j) m sn h = k22 m (nI (k + 1)) (nI (j + 1)) (mvH h m k j sn) := by
  have M0 : Md (sI h 746 m sn) m := M.tsI
  have M1 : ∀ v1, Md (sA (sI h 746 m sn) (m + 19) k v1) m := fun v1 => M0.tsA
  have M2 : ∀ v1 v2, Md (sA (sA (sI h 746 m sn) (m + 19) k v1) (m + 20) k v2) m := fun v1 v2 => (M1 v1).tsA
  have M3 : ∀ v1 v2 v3, Md (sA (sA (sA (sI h 746 m sn) (m + 19) k v1) (m + 20) k v2) (m + 21) k v3) m := fun v1 v2 v3 => (M2 v1 v2).tsA
  have M4 : ∀ v1 v2 v3 v4, Md (sA (sA (sA (sA (sI h 746 m sn) (m + 19) k v1) (m + 20) k v2) (m + 21) k v3) (m + 22) k v4) m := fun v1 v2 v3 v4 => (M3 v1 v2 v3).tsA
  have M5 : ∀ v1 v2 v3 v4 v5, Md (sA (sA (sA (sA (sA (sI h 746 m sn) (m + 19) k v1) (m + 20) k v2) (m + 21) k v3) (m + 22) k v4) (m + 23) k v5) m := fun v1 v2 v3 v4 v5 => (M4 v1 v2 v3 v4).tsA
  rw [b_Mod_doPending_78, gd_t M.k, pw_e, gd_t M0.k, rq_k M0.r_when M0.k_when, M0.n_when, ixn lj (by decide), ixn lk (by decide), pw_e, rq_k (M1 _).r_who (M1 _).k_who, (M1 _).n_who, ixn lj (by decide), ixn lk (by decide), pw_e, rq_k (M2 _ _).r_what (M2 _ _).k_what, (M2 _ _).n_what, ixn lj (by decide), ixn lk (by decide), pw_e, rq_k (M3 _ _ _).r_where (M3 _ _ _).k_where, (M3 _ _ _).n_where, ixn lj (by decide), ixn lk (by decide), pw_e, rq_k (M4 _ _ _ _).r_with (M4 _ _ _ _).k_with, (M4 _ _ _ _).n_with, ixn lj (by decide), ixn lk (by decide), pw_e, rq_k (M5 _ _ _ _ _).r_old (M5 _ _ _ _ _).k_old, (M5 _ _ _ _ _).n_old, ixn lj (by decide), ixn lk (by decide), pw_e, nI_1, nI_1]
  unfold mvH
  simp only [qA_sA, qA_sI, Nat.add_left_cancel_iff, Nat.reduceEqDiff, false_and, if_false]
theorem mv_A (h : Hp) (m k j : Nat) (sn : Int32) (a l : Nat) : hA (mvH h m k j sn) a l = if (m + 19) ≤ a ∧ a ≤ (m + 24) ∧ l = k then hA h a j else hA h a l := by
  unfold mvH
  simp only [qA_sA, qA_sI]
  by_cases z : l = k
  · subst z
    by_cases e1 : a = (m + 24)
    · subst e1; rw [if_pos ⟨rfl, rfl⟩, if_pos ⟨by omega, by omega, rfl⟩]
    · rw [if_neg (fun y => e1 y.1)]
      by_cases e2 : a = (m + 23)
      · subst e2; rw [if_pos ⟨rfl, rfl⟩, if_pos ⟨by omega, by omega, rfl⟩]
      · rw [if_neg (fun y => e2 y.1)]
        by_cases e3 : a = (m + 22)
        · subst e3; rw [if_pos ⟨rfl, rfl⟩, if_pos ⟨by omega, by omega, rfl⟩]
        · rw [if_neg (fun y => e3 y.1)]
          by_cases e4 : a = (m + 21)
          · subst e4; rw [if_pos ⟨rfl, rfl⟩, if_pos ⟨by omega, by omega, rfl⟩]
          · rw [if_neg (fun y => e4 y.1)]
            by_cases e5 : a = (m + 20)
            · subst e5; rw [if_pos ⟨rfl, rfl⟩, if_pos ⟨by omega, by omega, rfl⟩]
            · rw [if_neg (fun y => e5 y.1)]
              by_cases e6 : a = (m + 19)
              · subst e6; rw [if_pos ⟨rfl, rfl⟩, if_pos ⟨by omega, by omega, rfl⟩]
              · rw [if_neg (fun y => e6 y.1), if_neg (by omega)]
  · rw [if_neg (fun y => z y.2), if_neg (fun y => z y.2), if_neg (fun y => z y.2), if_neg (fun y => z y.2), if_neg (fun y => z y.2), if_neg (fun y => z y.2), if_neg (fun y => z y.2.2)]
theorem mv_R {h : Hp} {m k j : Nat} {sn : Int32} {l : Nat} {r : Rq} (q : RqR h m (if l = k then j else l) r) : RqR (mvH h m k j sn) m l r := by
  unfold RqR at *
  simp only [mv_A]
  have e : ∀ a, (m + 19) ≤ a → a ≤ (m + 24) → (if (m + 19) ≤ a ∧ a ≤ (m + 24) ∧ l = k then hA h a j else hA h a l) = hA h a (if l = k then j else l) := fun a z1 z2 => by
    by_cases z : l = k
    · rw [if_pos ⟨z1, z2, z⟩, if_pos z]
    · rw [if_neg (fun y => z y.2.2), if_neg z]
  rw [e _ (by omega) (by omega), e _ (by omega) (by omega), e _ (by omega) (by omega), e _ (by omega) (by omega), e _ (by omega) (by omega), e _ (by omega) (by omega)]
  exact q
abbrev dueB (c : Int32) (r : Rq) : Bool := decide (r.t = c)
theorem c_Mod_doPending {F : Nat} {h : Hp} {m : Nat} {L : List Rq} {c : Int32} (M : Md h m) (hF : 40000 ≤ F) (P : Pd h m L) (hc : hI h 719 m = c) (lL : L.length ≤ 8000) (ok : ∀ r, r ∈ L → RqOk r ∧ hA h (m + 9) r.s = nI r.b ∧ c ≤ r.t) : ∃ H, f_Mod_doPending F m h = some H ∧ Rf m (fun f => f = 745 ∨ f = 746) (fun a => a = (m + 2) ∨ a = (m + 13) ∨ ((m + 19) ≤ a ∧ a ≤ (m + 24))) h H ∧ msR H m = (L.filter (dueB c)).foldl pf (msR h m) ∧ Pd H m (L.filter (fun r => !(dueB c r))) := by
  by_cases s0 : hI h 746 m ≤ c
  · have key : ∀ j, j ≤ L.length → ∃ H, f_Mod_doPending F m h = b_Mod_doPending_22 F (F - j) m (nI ((L.take j).filter (fun r => !(dueB c r))).length) (nI j) H ∧ Rf m (fun f => f = 745 ∨ f = 746) (fun a => a = (m + 2) ∨ a = (m + 13) ∨ ((m + 19) ≤ a ∧ a ≤ (m + 24))) h H ∧ msR H m = ((L.take j).filter (dueB c)).foldl pf (msR h m) ∧ hI H 745 m = nI L.length ∧ (∀ k r, ((L.take j).filter (fun r => !(dueB c r)))[k]? = some r → RqR H m k r) ∧ (∀ k r, j ≤ k → L[k]? = some r → RqR H m k r) ∧ (∀ r, r ∈ (L.take j).filter (fun r => !(dueB c r)) → hI H 746 m ≤ r.t) := by
      intro j
      induction j with
      | zero =>
        intro _
        refine ⟨sI h 746 m 2147483647, ?_, (Rf.refl h).cI (Or.inr rfl), ?_, ?_, fun k r q => ?_, fun k r _ q => ?_, fun r q => ?_⟩
        · rw [f_Mod_doPending, gd_t M.k, hc, if_pos s0, pw_e]
          rfl
        · unfold msR; rw [qA_sI]; rfl
        · rw [qI_sI, if_neg (by omega)]; exact P.1
        · rw [List.take_zero] at q; cases q
        · have := P.2.1 k r q
          unfold RqR at *
          rw [qA_sI]
          exact this
        · rw [List.take_zero] at q; cases q
      | succ j ih =>
        intro hj
        obtain ⟨H, e1, R, em, ep, eK, eL, eS⟩ := ih (by omega)
        have MH : Md H m := R.md M
        have hjL : j < L.length := by omega
        have gj : L[j]? = some L[j] := List.getElem?_eq_getElem hjL
        have tk : L.take (j + 1) = L.take j ++ [L[j]] := by rw [List.take_add_one, gj]; rfl
        obtain ⟨ok1, ok2, ok3⟩ := ok L[j] (List.getElem_mem hjL)
        have rj := eL j L[j] (Nat.le_refl _) gj
        obtain ⟨f, hf⟩ : ∃ f, F - j = f + 1 := ⟨F - j - 1, by omega⟩
        have hf2 : F - (j + 1) = f := by omega
        have cJ : ¬ nI L.length ≤ nI j := nI_ge hjL (by omega)
        have lenK : ((L.take j).filter (fun r => !(dueB c r))).length ≤ j := by
          have := List.length_filter_le (fun r => !(dueB c r)) (L.take j)
          rw [List.length_take] at this
          omega
        have cy : hI H 719 m = c := by rw [R.i (fun z => by rcases z with z | z <;> cases z)]; exact hc
        have sbH : hA H (m + 9) L[j].s = nI L[j].b := by rw [R.a (fun z => by omega)]; exact ok2
        rw [hf, b_Mod_doPending_22] at e1
        dsimp only at e1
        rw [gd_t MH.k, ep, if_neg cJ, rq_k MH.r_when MH.k_when, MH.n_when, ixn (by omega) (by decide), rj.1, cy] at e1
        by_cases due : L[j].t = c
        · have db : dueB c L[j] = true := decide_eq_true due
          have k1 : (L.take (j + 1)).filter (fun r => !(dueB c r)) = (L.take j).filter (fun r => !(dueB c r)) := by
            rw [tk, List.filter_append, List.filter_cons_of_neg (by rw [db]; decide), List.filter_nil, List.append_nil]
          have k2 : (L.take (j + 1)).filter (dueB c) = (L.take j).filter (dueB c) ++ [L[j]] := by
            rw [tk, List.filter_append, List.filter_cons_of_pos db, List.filter_nil]
          rw [if_neg (by rw [due]; exact Int32.lt_irrefl), c_Mod_doOne MH (by omega) rj ok1 sbH, clv_some, nI_1] at e1
          have RR := pfR_f H m L[j]
          have R2 : Rf m (fun f => f = 745 ∨ f = 746) (fun a => a = (m + 2) ∨ a = (m + 13) ∨ ((m + 19) ≤ a ∧ a ≤ (m + 24))) h (pfR H m L[j]) := R.trans (RR.mono (fun f z => z.elim) (fun a z => z.elim Or.inl (fun y => Or.inr (Or.inl y))))
          have sameR : ∀ k r, RqR H m k r → RqR (pfR H m L[j]) m k r := fun k r q => by
            unfold RqR at *
            rw [RR.a (by omega), RR.a (by omega), RR.a (by omega), RR.a (by omega), RR.a (by omega), RR.a (by omega)]
            exact q
          have sameI : ∀ f, hI (pfR H m L[j]) f m = hI H f m := fun f => RR.i (fun z => z)
          rw [k1, k2]
          refine ⟨pfR H m L[j], by rw [hf2]; exact e1, R2, ?_, by rw [sameI]; exact ep, fun k r q => sameR k r (eK k r q), fun k r hk q => sameR k r (eL k r (by omega) q), by rw [sameI]; exact eS⟩
          rw [pfR_ms, em, List.foldl_append]
          rfl
        · have db : dueB c L[j] = false := decide_eq_false due
          have k1 : (L.take (j + 1)).filter (fun r => !(dueB c r)) = (L.take j).filter (fun r => !(dueB c r)) ++ [L[j]] := by
            rw [tk, List.filter_append, List.filter_cons_of_pos (by rw [db]; rfl), List.filter_nil]
          have k2 : (L.take (j + 1)).filter (dueB c) = (L.take j).filter (dueB c) := by
            rw [tk, List.filter_append, List.filter_cons_of_neg (by rw [db]; decide), List.filter_nil, List.append_nil]
          have lt : c < L[j].t := by
            rw [Int32.lt_iff_toInt_lt]
            rw [Int32.le_iff_toInt_le] at ok3
            have : ¬ L[j].t.toInt = c.toInt := fun z => due (Int32.toInt_inj.mp z)
            omega
          generalize hkp : ((L.take j).filter (fun r => !(dueB c r))) = kp at *
          have fin : ∀ sn : Int32, (∀ r, r ∈ kp → sn ≤ r.t) → sn ≤ L[j].t → f_Mod_doPending F m h = b_Mod_doPending_22 F f m (nI (kp.length + 1)) (nI (j + 1)) (mvH H m kp.length j sn) → ∃ H, f_Mod_doPending F m h = b_Mod_doPending_22 F (F - (j + 1)) m (nI (kp ++ [L[j]]).length) (nI (j + 1)) H ∧ Rf m (fun f => f = 745 ∨ f = 746) (fun a => a = (m + 2) ∨ a = (m + 13) ∨ ((m + 19) ≤ a ∧ a ≤ (m + 24))) h H ∧ msR H m = ((L.take j).filter (dueB c)).foldl pf (msR h m) ∧ hI H 745 m = nI L.length ∧ (∀ k r, (kp ++ [L[j]])[k]? = some r → RqR H m k r) ∧ (∀ k r, j + 1 ≤ k → L[k]? = some r → RqR H m k r) ∧ (∀ r, r ∈ kp ++ [L[j]] → hI H 746 m ≤ r.t) := by
            intro sn s1 s2 e2
            have iS : ∀ f, hI (mvH H m kp.length j sn) f m = if f = 746 then sn else hI H f m := fun f => by
              unfold mvH
              simp only [qI_sA, qI_sI, and_true]
            refine ⟨mvH H m kp.length j sn, by rw [hf2, List.length_append]; exact e2, ?_, ?_, by rw [iS, if_neg (by decide)]; exact ep, fun k r q => ?_, fun k r hk q => ?_, fun r q => ?_⟩
            · unfold mvH
              exact ((((((R.cI (Or.inr rfl)).cA (Or.inr (Or.inr ⟨by omega, by omega⟩))).cA (Or.inr (Or.inr ⟨by omega, by omega⟩))).cA (Or.inr (Or.inr ⟨by omega, by omega⟩))).cA (Or.inr (Or.inr ⟨by omega, by omega⟩))).cA (Or.inr (Or.inr ⟨by omega, by omega⟩))).cA (Or.inr (Or.inr ⟨by omega, by omega⟩))
            · rw [← em]
              unfold msR
              refine Prod.ext ?_ ?_
              · funext p
                dsimp only
                rw [mv_A, if_neg (by omega)]
              · funext p
                dsimp only
                rw [mv_A, if_neg (by omega)]
            · refine mv_R ?_
              by_cases z : k = kp.length
              · rw [z, List.getElem?_append_right (Nat.le_refl _), Nat.sub_self] at q
                simp only [List.getElem?_cons_zero, Option.some.injEq] at q
                rw [if_pos z, ← q]
                exact rj
              · have hk : k < kp.length := by
                  rcases Nat.lt_or_ge k (kp.length + 1) with y | y
                  · omega
                  · rw [List.getElem?_eq_none (by rw [List.length_append]; exact y)] at q
                    cases q
                rw [List.getElem?_append_left hk] at q
                rw [if_neg z]
                exact eK k r q
            · refine mv_R ?_
              rw [if_neg (by omega)]
              exact eL k r (by omega) q
            · rw [iS, if_pos rfl]
              rcases List.mem_append.mp q with z | z
              · exact s1 r z
              · rw [List.mem_singleton] at z
                rw [z]
                exact s2
          rw [if_pos lt, ixn (by omega) (by decide), rj.1] at e1
          rw [k1, k2]
          by_cases sl : hI H 746 m ≤ L[j].t
          · rw [if_pos sl, mv_78 MH (by omega) (by omega)] at e1
            exact fin _ eS sl e1
          · rw [if_neg sl, ixn (by omega) (by decide), rj.1, mv_78 MH (by omega) (by omega)] at e1
            exact fin _ (fun r hr => i_le_trans (i_nle sl) (eS r hr)) (i_le_refl _) e1
    obtain ⟨H, e1, R, em, ep, eK, eL, eS⟩ := key L.length (Nat.le_refl _)
    have MH : Md H m := R.md M
    obtain ⟨f, hf⟩ : ∃ f, F - L.length = f + 1 := ⟨F - L.length - 1, by omega⟩
    have cL : nI L.length ≤ nI L.length := nI_le (Nat.le_refl _) (by omega)
    rw [List.take_length] at *
    rw [hf, b_Mod_doPending_22] at e1
    dsimp only at e1
    rw [gd_t MH.k, ep, if_pos cL, pw_e] at e1
    refine ⟨_, e1, R.cI (Or.inl rfl), ?_, ?_, fun k r q => ?_, fun r q => ?_⟩
    · rw [← em]; unfold msR; rw [qA_sI]
    · rw [qI_sI, if_pos ⟨rfl, rfl⟩]
    · have := eK k r q
      unfold RqR at *
      rw [qA_sI]
      exact this
    · rw [qI_sI, if_neg (by omega)]
      exact eS r q
  · have nd : ∀ r, r ∈ L → dueB c r = false := fun r hr => decide_eq_false fun z => s0 (by rw [← z]; exact P.2.2 r hr)
    have f1 : L.filter (dueB c) = [] := List.filter_eq_nil_iff.mpr fun r hr => by rw [nd r hr]; decide
    have f2 : L.filter (fun r => !(dueB c r)) = L := List.filter_eq_self.mpr fun r hr => by rw [nd r hr]; rfl
    refine ⟨h, ?_, Rf.refl h, by rw [f1]; rfl, by rw [f2]; exact P⟩
    rw [f_Mod_doPending, gd_t M.k, hc, if_neg s0]
