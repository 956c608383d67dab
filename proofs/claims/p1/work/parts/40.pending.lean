/-! what is on its way, in the class -/
def Lnk (h : Hp) : Option Nat → List Nat → Option Nat → Prop
  | p, [], e => p = e
  | p, a :: l, e => p = some a ∧ hK h a = 11 ∧ Lnk h (hR h 640 a) l e
theorem Lnk.same {h k : Hp} : ∀ {l : List Nat} {p e : Option Nat}, Lnk h p l e → (∀ a, a ∈ l → hK k a = hK h a ∧ hR k 640 a = hR h 640 a) → Lnk k p l e := by
  intro l
  induction l with
  | nil => intro p e H _; exact H
  | cons a l ih =>
    intro p e H q
    obtain ⟨h1, h2, h3⟩ := H
    obtain ⟨q1, q2⟩ := q a (List.mem_cons_self ..)
    refine ⟨h1, by rw [q1]; exact h2, ?_⟩
    rw [q2]
    exact ih h3 (fun b hb => q b (List.mem_cons_of_mem _ hb))
theorem Lnk_app {h : Hp} : ∀ {l1 : List Nat} {l2 : List Nat} {p e : Option Nat}, Lnk h p (l1 ++ l2) e ↔ ∃ q, Lnk h p l1 q ∧ Lnk h q l2 e := by
  intro l1
  induction l1 with
  | nil =>
    intro l2 p e
    constructor
    · intro H; exact ⟨p, rfl, H⟩
    · intro ⟨q, h1, h2⟩
      have : p = q := h1
      subst this
      exact h2
  | cons a l1 ih =>
    intro l2 p e
    constructor
    · intro ⟨h1, h2, h3⟩
      obtain ⟨q, q1, q2⟩ := ih.mp h3
      exact ⟨q, ⟨h1, h2, q1⟩, q2⟩
    · intro ⟨q, ⟨h1, h2, h3⟩, q2⟩
      exact ⟨h1, h2, ih.mpr ⟨q, h3, q2⟩⟩
theorem Lnk.k {h : Hp} : ∀ {l : List Nat} {p e : Option Nat}, Lnk h p l e → ∀ a, a ∈ l → hK h a = 11 := by
  intro l
  induction l with
  | nil => intro p e _ a q; cases q
  | cons b l ih =>
    intro p e H a q
    rcases List.mem_cons.mp q with z | z
    · rw [z]; exact H.2.1
    · exact ih H.2.2 a z
abbrev RowT : Type := Nat → List (Nat × Rq)
/-- what an ask says -/
def RqC (h : Hp) (x a : Nat) (r : Rq) : Prop := hI h 648 a = r.t ∧ (∃ w, hR h 641 a = some w ∧ hQ h (x + 16 + 3 * (r.s / 16)) (r.s % 16) = some w) ∧ (∃ bl, hR h 642 a = some bl ∧ hQ h (x + 13) r.b = some bl) ∧ (∃ wd, hR h 643 a = some wd ∧ wd < hT h ∧ hK h wd = 10 ∧ hI h 576 wd = nI r.o ∧ hI h 577 wd = nI r.d) ∧ hI h 644 a = nI r.i ∧ hI h 645 a = nI r.p ∧ hI h 646 a = r.y ∧ hI h 647 a = r.w
theorem RqC.same {h k : Hp} {x a : Nat} {r : Rq} (R : RqC h x a r) (e1 : ∀ f, 640 ≤ f → f ≤ 648 → ¬ f = 640 → hI k f a = hI h f a ∧ hR k f a = hR h f a) (e2 : hQ k (x + 16 + 3 * (r.s / 16)) (r.s % 16) = hQ h (x + 16 + 3 * (r.s / 16)) (r.s % 16)) (e3 : hQ k (x + 13) r.b = hQ h (x + 13) r.b) (e4 : ∀ wd, wd < hT h → hK h wd = 10 → wd < hT k ∧ hK k wd = 10 ∧ hI k 576 wd = hI h 576 wd ∧ hI k 577 wd = hI h 577 wd) : RqC k x a r := by
  obtain ⟨r1, ⟨w, r2, r3⟩, ⟨bl, r4, r5⟩, ⟨wd, r6, r7, r8, r9, r10⟩, r11, r12, r13, r14⟩ := R
  obtain ⟨w1, w2, w3, w4⟩ := e4 wd r7 r8
  refine ⟨by rw [(e1 _ (by decide) (by decide) (by decide)).1]; exact r1, ⟨w, by rw [(e1 _ (by decide) (by decide) (by decide)).2]; exact r2, by rw [e2]; exact r3⟩, ⟨bl, by rw [(e1 _ (by decide) (by decide) (by decide)).2]; exact r4, by rw [e3]; exact r5⟩, ⟨wd, by rw [(e1 _ (by decide) (by decide) (by decide)).2]; exact r6, w1, w2, by rw [w3]; exact r9, by rw [w4]; exact r10⟩, by rw [(e1 _ (by decide) (by decide) (by decide)).1]; exact r11, by rw [(e1 _ (by decide) (by decide) (by decide)).1]; exact r12, by rw [(e1 _ (by decide) (by decide) (by decide)).1]; exact r13, by rw [(e1 _ (by decide) (by decide) (by decide)).1]; exact r14⟩
def Rws (h : Hp) (x lo : Nat) (tg : Nat → Nat) (Z : RowT) : Prop := (∀ r, r < 64 → Lnk h (hQ h (x + 9) r) ((Z r).map Prod.fst) none) ∧ (∀ r, r < 64 → hQ h (x + 10) r = ((Z r).map Prod.fst).getLast?) ∧ (∀ r, r < 64 → ∀ q, q ∈ Z r → RqC h x q.1 q.2 ∧ (q.2.t &&& 63) = nI r ∧ q.2.s < 128) ∧ (∀ r, r < 64 → ((Z r).map Prod.fst).Nodup) ∧ (∀ r, r < 64 → ∀ q, q ∈ Z r → tg q.1 = r ∧ lo ≤ q.1 ∧ q.1 < hT h)
theorem Rws.fst {h : Hp} {x lo : Nat} {tg : Nat → Nat} {Z : RowT} (H : Rws h x lo tg Z) : ∀ r, r < 64 → Lnk h (hQ h (x + 9) r) ((Z r).map Prod.fst) none := H.1
theorem Rws.lst {h : Hp} {x lo : Nat} {tg : Nat → Nat} {Z : RowT} (H : Rws h x lo tg Z) : ∀ r, r < 64 → hQ h (x + 10) r = ((Z r).map Prod.fst).getLast? := H.2.1
theorem Rws.rqs {h : Hp} {x lo : Nat} {tg : Nat → Nat} {Z : RowT} (H : Rws h x lo tg Z) : ∀ r, r < 64 → ∀ q, q ∈ Z r → RqC h x q.1 q.2 ∧ (q.2.t &&& 63) = nI r ∧ q.2.s < 128 := H.2.2.1
theorem Rws.ndr {h : Hp} {x lo : Nat} {tg : Nat → Nat} {Z : RowT} (H : Rws h x lo tg Z) : ∀ r, r < 64 → ((Z r).map Prod.fst).Nodup := H.2.2.2.1
theorem Rws.tgr {h : Hp} {x lo : Nat} {tg : Nat → Nat} {Z : RowT} (H : Rws h x lo tg Z) : ∀ r, r < 64 → ∀ q, q ∈ Z r → tg q.1 = r ∧ lo ≤ q.1 ∧ q.1 < hT h := H.2.2.2.2

def Spr (h : Hp) (x lo : Nat) (tg : Nat → Nat) (sp : List Nat) : Prop := (Lnk h (hR h 258 (x + 8)) sp none) ∧ (sp.Nodup) ∧ (∀ a, a ∈ sp → tg a = 64 ∧ lo ≤ a ∧ a < hT h)
theorem Spr.spr {h : Hp} {x lo : Nat} {tg : Nat → Nat} {sp : List Nat} (H : Spr h x lo tg sp) : Lnk h (hR h 258 (x + 8)) sp none := H.1
theorem Spr.nds {h : Hp} {x lo : Nat} {tg : Nat → Nat} {sp : List Nat} (H : Spr h x lo tg sp) : sp.Nodup := H.2.1
theorem Spr.tgs {h : Hp} {x lo : Nat} {tg : Nat → Nat} {sp : List Nat} (H : Spr h x lo tg sp) : ∀ a, a ∈ sp → tg a = 64 ∧ lo ≤ a ∧ a < hT h := H.2.2

theorem mem_fst {Z : List (Nat × Rq)} {a : Nat} (h : a ∈ Z.map Prod.fst) : ∃ r, (a, r) ∈ Z := by
  obtain ⟨q, q1, q2⟩ := List.mem_map.mp h
  exact ⟨q.2, by rw [← q2]; exact q1⟩
theorem Rws.k {h : Hp} {x lo : Nat} {tg : Nat → Nat} {Z : RowT} (R : Rws h x lo tg Z) {r : Nat} (hr : r < 64) {q : Nat × Rq} (hq : q ∈ Z r) : hK h q.1 = 11 := (R.fst r hr).k q.1 (List.mem_map.mpr ⟨q, hq, rfl⟩)
theorem Rws.same {h k : Hp} {x lo : Nat} {tg tg2 : Nat → Nat} {Z : RowT} (R : Rws h x lo tg Z) (e1 : ∀ r, r < 64 → hQ k (x + 9) r = hQ h (x + 9) r ∧ hQ k (x + 10) r = hQ h (x + 10) r) (e2 : ∀ r, r < 64 → ∀ q, q ∈ Z r → hK k q.1 = hK h q.1 ∧ tg2 q.1 = tg q.1 ∧ q.1 < hT k ∧ ∀ f, 640 ≤ f → f ≤ 648 → hI k f q.1 = hI h f q.1 ∧ hR k f q.1 = hR h f q.1) (e3 : ∀ u j, u < 8 → j < 16 → hQ k (x + 16 + 3 * u) j = hQ h (x + 16 + 3 * u) j) (e4 : ∀ j, hQ k (x + 13) j = hQ h (x + 13) j) (e5 : ∀ wd, wd < hT h → hK h wd = 10 → wd < hT k ∧ hK k wd = 10 ∧ hI k 576 wd = hI h 576 wd ∧ hI k 577 wd = hI h 577 wd) : Rws k x lo tg2 Z := by
  refine ⟨fun r hr => ?_, fun r hr => ?_, fun r hr q hq => ?_, R.ndr, fun r hr q hq => ?_⟩
  · rw [(e1 r hr).1]
    refine (R.fst r hr).same fun a ha => ?_
    obtain ⟨rq, q1⟩ := mem_fst ha
    have := e2 r hr _ q1
    exact ⟨this.1, (this.2.2.2 _ (by decide) (by decide)).2⟩
  · rw [(e1 r hr).2]
    exact R.lst r hr
  · obtain ⟨q1, q2, q3⟩ := R.rqs r hr q hq
    exact ⟨q1.same (fun f z1 z2 _ => (e2 r hr q hq).2.2.2 f z1 z2) (e3 _ _ (by omega) (by omega)) (e4 _) e5, q2, q3⟩
  · obtain ⟨t1, t2, t3⟩ := R.tgr r hr q hq
    have := e2 r hr q hq
    exact ⟨by rw [this.2.1]; exact t1, t2, this.2.2.1⟩
def akH (h : Hp) (a w wd ro rg i b d : Nat) (v : Int32) : Hp := sI (sI (sI (sI (sI (sR (sR (sR (sR h 640 a none) 641 a (some w)) 642 a (hR h 512 w)) 643 a (some wd)) 644 a (nI i)) 645 a (hA h ro i)) 646 a (hA h rg (16 * i + b))) 647 a (hA h rg (16 * i + d))) 648 a v
theorem c_Ask_become {F : Nat} {h : Hp} {w rg pl ro pr ti ln : Nat} (W : Wp h w rg pl ro pr ti ln) (hF : 40000 ≤ F) {wd : Nat} (hw : hR h 520 w = some wd) (hk : hK h wd = 10) {a i b d : Nat} {v : Int32} (ka : hK h a = 11) (hi : i < ln) (hb : hI h 579 wd = nI b) (lb : b < 16) (hd : hI h 577 wd = nI d) (ld : d < 16) : f_Ask_become F a (some w) (nI i) v h = some (akH h a w wd ro rg i b d v) := by
  obtain ⟨⟨wk, wl, hl⟩, ⟨r1, k1, n1, m1⟩, ⟨r2, k2, n2, m2⟩, ⟨r3, k3, n3, m3⟩, ⟨r4, k4, n4⟩, ⟨r5, k5, n5⟩, d1, d2, d3, d4, d5, d6, d7, d8, d9, d10⟩ := W
  simp (disch := omega) only [f_Ask_become, f_Warp_register, akH, m_16, pw, gd, rq_i, Bool.false_eq_true, eq_self, or_false, false_or, or_true, true_or, and_true, true_and, and_false, false_and, not_true_eq_false, not_false_eq_true, nu_none, nu_some, cl_some, clv_some, qK_sI, qK_sA, qK_sL, qR_sI, qR_sA, qR_sL, qN_sI, qN_sA, qN_sL, qK_oA, qR_oA, qN_oA, qI_oA, qI_sA, qI_sL, qL_sA, qL_sI, qL_oA, qA_sI, qA_sL, qA_oA, if_true, if_false, reduceIte, ixn, nI_add, nI_1, n_4, n_8, n_16, n_20, n_32, n_64, n_128, i_0, qK_sR, qN_sR, qR_sR, qI_sR, qA_sR, qQ_sR, qR_sI, qQ_sI, qI_sI, Nat.reduceEqDiff, ka, wk, hw, hk, r1, k1, r3, k3, hb, hd]
theorem ak_rI (h : Hp) (a w wd ro rg i b d : Nat) (v : Int32) (f c : Nat) (q : ¬ c = a ∨ f < 640) : hI (akH h a w wd ro rg i b d v) f c = hI h f c := by
  unfold akH
  rw [qI_sI, if_neg (by omega), qI_sI, if_neg (by omega), qI_sI, if_neg (by omega), qI_sI, if_neg (by omega), qI_sI, if_neg (by omega), qI_sR, qI_sR, qI_sR, qI_sR]
theorem ak_rR (h : Hp) (a w wd ro rg i b d : Nat) (v : Int32) (f c : Nat) (q : ¬ c = a ∨ f < 640) : hR (akH h a w wd ro rg i b d v) f c = hR h f c := by
  unfold akH
  rw [qR_sI, qR_sI, qR_sI, qR_sI, qR_sI, qR_sR, if_neg (by omega), qR_sR, if_neg (by omega), qR_sR, if_neg (by omega), qR_sR, if_neg (by omega)]
theorem ak_n (h : Hp) (a w wd ro rg i b d : Nat) (v : Int32) : hR (akH h a w wd ro rg i b d v) 640 a = none := by
  unfold akH
  simp only [qR_sI, qR_sR, Nat.reduceEqDiff, false_and, if_false, and_self, if_true]
theorem ak_o (h : Hp) (a w wd ro rg i b d : Nat) (v : Int32) : hT (akH h a w wd ro rg i b d v) = hT h ∧ hU (akH h a w wd ro rg i b d v) = hU h ∧ hK (akH h a w wd ro rg i b d v) = hK h ∧ hN (akH h a w wd ro rg i b d v) = hN h ∧ hA (akH h a w wd ro rg i b d v) = hA h ∧ hQ (akH h a w wd ro rg i b d v) = hQ h ∧ hL (akH h a w wd ro rg i b d v) = hL h := by
  unfold akH
  refine ⟨?_, ?_, ?_, ?_, ?_, ?_, ?_⟩
  · simp only [qT_sI, qT_sR]
  · simp only [qU_sI, qU_sR]
  · simp only [qK_sI, qK_sR]
  · simp only [qN_sI, qN_sR]
  · simp only [qA_sI, qA_sR]
  · simp only [qQ_sI, qQ_sR]
  · simp only [qL_sI, qL_sR]
theorem ak_c (h : Hp) (x a w wd ro rg i b d : Nat) (v : Int32) (r : Rq) (e1 : v = r.t) (e2 : hQ h (x + 16 + 3 * (r.s / 16)) (r.s % 16) = some w) (bl : Nat) (e3 : hR h 512 w = some bl) (e4 : hQ h (x + 13) r.b = some bl) (e5 : wd < hT h) (e6 : hK h wd = 10) (e7 : hI h 576 wd = nI r.o) (e8 : hI h 577 wd = nI r.d) (e9 : i = r.i) (e10 : hA h ro i = nI r.p) (e11 : hA h rg (16 * i + b) = r.y) (e12 : hA h rg (16 * i + d) = r.w) : RqC (akH h a w wd ro rg i b d v) x a r := by
  obtain ⟨o1, o2, o3, o4, o5, o6, o7⟩ := ak_o h a w wd ro rg i b d v
  unfold RqC
  rw [o1, o3, o6]
  have i7 : hI (akH h a w wd ro rg i b d v) 576 wd = hI h 576 wd := ak_rI _ _ _ _ _ _ _ _ _ _ _ _ (Or.inr (by decide))
  have i8 : hI (akH h a w wd ro rg i b d v) 577 wd = hI h 577 wd := ak_rI _ _ _ _ _ _ _ _ _ _ _ _ (Or.inr (by decide))
  refine ⟨?_, ⟨w, ?_, e2⟩, ⟨bl, ?_, e4⟩, ⟨wd, ?_, e5, e6, by rw [i7]; exact e7, by rw [i8]; exact e8⟩, ?_, ?_, ?_, ?_⟩ <;> unfold akH <;> simp only [qR_sI, qR_sR, qI_sI, qI_sR, Nat.reduceEqDiff, false_and, if_false, and_self, if_true]
  · exact e1
  · exact e3
  · rw [e9]
  · exact e10
  · exact e11
  · exact e12
/-- what asking may change -/
def PA (x : Nat) (h : Hp) (f a : Nat) : Prop := hT h ≤ a ∨ hK h a = 11 ∨ (a = x + 8 ∧ (f = 258 ∨ f = 259)) ∨ ((a = x + 9 ∨ a = x + 10) ∧ f = 9999)
theorem PA.tr {x : Nat} {h k l : Hp} (A : Fr (PA x h) h k) (B : Fr (PA x k) k l) : Fr (PA x h) h l := by
  refine A.trans (B.mono fun f a ha q => ?_)
  rcases q with z | z | z | z
  · have := A.1
    exact Or.inl (by omega)
  · by_cases c : a < hT h
    · exact Or.inr (Or.inl (by rw [← (A.2 a c).1]; exact z))
    · exact Or.inl (by omega)
  · exact Or.inr (Or.inr (Or.inl z))
  · exact Or.inr (Or.inr (Or.inr z))
def apR (Z : RowT) (r0 : Nat) (l : List (Nat × Rq)) : RowT := fun r => if r = r0 then Z r ++ l else Z r
/-- not touched by asking -/
theorem PA_no {x : Nat} {h : Hp} (C : Cd h x) {a f : Nat} (aT : a < hT h) (n1 : ¬ hK h a = 11) (n2 : ¬ hK h a = 5) (n3 : ¬ hK h a = 124) : ¬ PA x h f a := by
  intro z
  rcases z with z | z | ⟨z, _⟩ | ⟨z | z, _⟩
  · omega
  · exact n1 z
  · rw [z] at n2; exact n2 C.k_pending
  · rw [z] at n3; exact n3 C.k_first
  · rw [z] at n3; exact n3 C.k_last
theorem PA_q {x : Nat} {h k : Hp} (C : Cd h x) (A : Fr (PA x h) h k) {a : Nat} (aT : a < hT h) (n1 : ¬ hK h a = 11) (n2 : ¬ hK h a = 5) (n3 : ¬ hK h a = 124) : hK k a = hK h a ∧ hN k a = hN h a ∧ (∀ f, hI k f a = hI h f a ∧ hR k f a = hR h f a) ∧ ∀ j, hA k a j = hA h a j ∧ hQ k a j = hQ h a j ∧ hL k a j = hL h a j := by
  obtain ⟨a1, a2, a3, a4⟩ := A.2 a aT
  exact ⟨a1, a2, fun f => a3 f (PA_no C aT n1 n2 n3), a4 (PA_no C aT n1 n2 n3)⟩
theorem pd_take {F : Nat} {h : Hp} {x lo : Nat} {tg : Nat → Nat} {Z : RowT} {sp : List Nat} (C : Cd h x) (R : Rws h x lo tg Z) (S : Spr h x lo tg sp) (hx : x + 38 < hT h) (lh : lo ≤ hT h) (lx : x + 38 < lo) (W : Option Nat) (I v : Int32) : ∃ h1 a sp2, f_Pending_add F (x + 8) W I v h = b_Pending_add_32 F (x + 8) W I v a h1 ∧ Fr (PA x h) h h1 ∧ Rws h1 x lo tg Z ∧ Spr h1 x lo tg sp2 ∧ hK h1 a = 11 ∧ a < hT h1 ∧ lo ≤ a ∧ (∀ r, r < 64 → ∀ q, q ∈ Z r → ¬ q.1 = a) ∧ ¬ a ∈ sp2 ∧ hI h1 259 (x + 8) = hI h 259 (x + 8) ∧ ((sp = [] ∧ sp2 = [] ∧ hT h1 = hT h + 1 ∧ hU h1 = hU h + 9) ∨ (sp.length = sp2.length + 1 ∧ hT h1 = hT h ∧ hU h1 = hU h)) := by
  have kq := C.k_pending
  cases sp with
  | nil =>
    have e0 : hR h 258 (x + 8) = none := S.spr
    refine ⟨nw h 11 0 9, hT h, [], ?_, (Fr.refl h).cN _ _ _, ?_, ?_, ?_, ?_, lh, ?_, ?_, ?_, Or.inl ⟨rfl, rfl, ?_, ?_⟩⟩
    · rw [f_Pending_add, gd_t kq, pw_e, e0, nu_none, pw_e, pw_e, f_Ask_init, clv_some]
    · refine R.same (fun r hr => ?_) (fun r hr q hq => ?_) (fun u j hu hj => ?_) (fun j => ?_) (fun wd w1 w2 => ?_)
      · rw [qQ_nw, if_neg (by omega), qQ_nw, if_neg (by omega)]; exact ⟨rfl, rfl⟩
      · have := (R.tgr r hr q hq).2.2
        refine ⟨by rw [qK_nw, if_neg (by omega)], rfl, by rw [qT_nw]; omega, fun f _ _ => ?_⟩
        rw [qI_nw, if_neg (by omega), qR_nw, if_neg (by omega)]; exact ⟨rfl, rfl⟩
      · rw [qQ_nw, if_neg (by omega)]
      · rw [qQ_nw, if_neg (by omega)]
      · rw [qT_nw, qK_nw, if_neg (by omega), qI_nw, if_neg (by omega), qI_nw, if_neg (by omega)]
        exact ⟨by omega, w2, rfl, rfl⟩
    · refine ⟨?_, List.nodup_nil, fun a q => by cases q⟩
      show hR _ _ _ = none
      rw [qR_nw, if_neg (by omega), e0]
    · rw [qK_nw, if_pos rfl]
    · rw [qT_nw]; omega
    · intro r hr q hq z
      have := (R.tgr r hr q hq).2.2
      omega
    · exact List.not_mem_nil
    · rw [qI_nw, if_neg (by omega)]
    · rw [qT_nw]
    · rw [qU_nw]
  | cons a sp =>
    obtain ⟨e0, ka, L⟩ := S.spr
    have nd := List.nodup_cons.mp S.nds
    obtain ⟨ta, la, aT⟩ := S.tgs a (List.mem_cons_self ..)
    have nx : ¬ a = x + 8 := by omega
    refine ⟨sR h 258 (x + 8) (hR h 640 a), a, sp, ?_, ?_, ?_, ?_, ?_, ?_, la, ?_, nd.1, ?_, Or.inr ⟨rfl, ?_, ?_⟩⟩
    · rw [f_Pending_add, gd_t kq, pw_e, e0, nu_some, gd_t ka, pw_e, pw_e]
    · exact (Fr.refl h).cR (Or.inr (Or.inr (Or.inl ⟨rfl, Or.inl rfl⟩)))
    · refine R.same (fun r hr => ?_) (fun r hr q hq => ?_) (fun u j hu hj => ?_) (fun j => ?_) (fun wd w1 w2 => ?_)
      · rw [qQ_sR]; exact ⟨rfl, rfl⟩
      · have := (R.tgr r hr q hq).2.2
        refine ⟨by rw [qK_sR], rfl, by rw [qT_sR]; omega, fun f z1 z2 => ?_⟩
        rw [qI_sR, qR_sR, if_neg (by omega)]; exact ⟨rfl, rfl⟩
      · rw [qQ_sR]
      · rw [qQ_sR]
      · rw [qT_sR, qK_sR, qI_sR]
        exact ⟨w1, w2, rfl, rfl⟩
    · refine ⟨?_, nd.2, fun c q => ?_⟩
      · rw [qR_sR, if_pos ⟨rfl, rfl⟩]
        refine L.same fun c hc => ⟨by rw [qK_sR], ?_⟩
        rw [qR_sR, if_neg (fun z => by cases z.1)]
      · rw [qT_sR]
        exact S.tgs c (List.mem_cons_of_mem _ q)
    · rw [qK_sR]; exact ka
    · rw [qT_sR]; exact aT
    · intro r hr q hq z
      have := (R.tgr r hr q hq).1
      rw [z, ta] at this
      omega
    · rw [qI_sR]
    · rw [qT_sR]
    · rw [qU_sR]
theorem pd_link {F : Nat} {h : Hp} {w rg pl ro pr ti ln : Nat} (W : Wp h w rg pl ro pr ti ln) (hF : 40000 ≤ F) {wd : Nat} (hw : hR h 520 w = some wd) (hk : hK h wd = 10) {x lo i b d r0 bl a : Nat} {v : Int32} {tg : Nat → Nat} {Z : RowT} {sp : List Nat} (C : Cd h x) (R : Rws h x lo tg Z) (S : Spr h x lo tg sp) (hx : x + 38 < hT h) (lx : x + 38 < lo) (ka : hK h a = 11) (aT : a < hT h) (la : lo ≤ a) (nZ : ∀ r, r < 64 → ∀ q, q ∈ Z r → ¬ q.1 = a) (nS : ¬ a ∈ sp) (hi : i < ln) (hb : hI h 579 wd = nI b) (lb : b < 16) (hd : hI h 577 wd = nI d) (ld : d < 16) (ev : (v &&& 63) = nI r0) (l64 : r0 < 64) (hbl : hR h 512 w = some bl) (wdT : wd < hT h) (r : Rq) (e1 : v = r.t) (e2 : hQ h (x + 16 + 3 * (r.s / 16)) (r.s % 16) = some w) (e4 : hQ h (x + 13) r.b = some bl) (e7 : hI h 576 wd = nI r.o) (e8 : hI h 577 wd = nI r.d) (e9 : i = r.i) (e10 : hA h ro i = nI r.p) (e11 : hA h rg (16 * i + b) = r.y) (e12 : hA h rg (16 * i + d) = r.w) (hu : r.s < 128) :
    ∃ k tg2, b_Pending_add_32 F (x + 8) (some w) (nI i) v a h = some k ∧ Fr (PA x h) h k ∧ Rws k x lo tg2 (apR Z r0 [(a, r)]) ∧ Spr k x lo tg2 sp ∧ hI k 259 (x + 8) = hI h 259 (x + 8) + 1 ∧ hT k = hT h ∧ hU k = hU h := by
  have bc := c_Ask_become (v := v) W hF hw hk ka hi hb lb hd ld
  have ac := ak_c h x a w wd ro rg i b d v r e1 e2 bl hbl e4 wdT hk e7 e8 e9 e10 e11 e12
  have rI := ak_rI h a w wd ro rg i b d v
  have rR := ak_rR h a w wd ro rg i b d v
  have rn := ak_n h a w wd ro rg i b d v
  obtain ⟨o1, o2, o3, o4, o5, o6, o7⟩ := ak_o h a w wd ro rg i b d v
  have FA : Fr (PA x h) h (akH h a w wd ro rg i b d v) := by
    unfold akH
    have pa : ∀ f, PA x h f a := fun f => Or.inr (Or.inl ka)
    exact (((((((((Fr.refl h).cR (pa _)).cR (pa _)).cR (pa _)).cR (pa _)).cI (pa _)).cI (pa _)).cI (pa _)).cI (pa _)).cI (pa _)
  generalize akH h a w wd ro rg i b d v = h2 at *
  have nx8 : ¬ x + 8 = a := by omega
  have k5 : hK h2 (x + 8) = 5 := by rw [o3]; exact C.k_pending
  have r256 : hR h2 256 (x + 8) = some (x + 9) := by rw [rR _ _ (Or.inl nx8)]; exact C.r_first
  have r257 : hR h2 257 (x + 8) = some (x + 10) := by rw [rR _ _ (Or.inl nx8)]; exact C.r_last
  have k9 : hK h2 (x + 9) = 124 := by rw [o3]; exact C.k_first
  have k10 : hK h2 (x + 10) = 124 := by rw [o3]; exact C.k_last
  have n9 : hN h2 (x + 9) = 64 := by rw [o4]; exact C.n_first
  have n10 : hN h2 (x + 10) = 64 := by rw [o4]; exact C.n_last
  have ka2 : hK h2 a = 11 := by rw [o3]; exact ka
  have el := R.lst r0 l64
  have start : b_Pending_add_32 F (x + 8) (some w) (nI i) v a h = nu (((Z r0).map Prod.fst).getLast?) (b_Pending_add_80 F (x + 8) a (nI r0) (sQ h2 (x + 9) r0 (some a))) (fun a_53 => rq h2 (some a_53) 11 fun z => b_Pending_add_80 F (x + 8) a (nI r0) (sR h2 640 z (some a))) := by
    rw [b_Pending_add_32, gd_t ka, bc, clv_some, gd_t k5, rq_k r257 k10, n10, ev, ixn l64 (by decide), pw_e, o6, el]
    cases eg : ((Z r0).map Prod.fst).getLast? with
    | none => rw [nu_none, nu_none, rq_k r256 k9, gd_t ka2, n9, ixn l64 (by decide), pw_e]
    | some z =>
      rw [nu_some, nu_some, ixn l64 (by decide), el, eg]
      rfl
  have l80 : ∀ h3, hK h3 = hK h2 → hN h3 = hN h2 → (∀ f, hR h3 f (x + 8) = hR h2 f (x + 8)) → hI h3 = hI h2 → b_Pending_add_80 F (x + 8) a (nI r0) h3 = some (sI (sQ h3 (x + 10) r0 (some a)) 259 (x + 8) (hI h 259 (x + 8) + 1)) := by
    intro h3 c1 c2 c3 c4
    rw [b_Pending_add_80, gd_t (by rw [c1]; exact k5), rq_k (by rw [c3]; exact r257) (by rw [c1]; exact k10), gd_t (by rw [c1]; exact ka2), c2, n10, ixn l64 (by decide), pw_e, pw_e, qI_sQ, c4, rI _ _ (Or.inr (by decide))]
  have cells : ∀ r, r < 64 → ∀ q, q ∈ Z r → ∀ f, hI h2 f q.1 = hI h f q.1 ∧ hR h2 f q.1 = hR h f q.1 := fun r hr q hq f => ⟨rI _ _ (Or.inl (nZ r hr q hq)), rR _ _ (Or.inl (nZ r hr q hq))⟩
  /- the row where it is put -/
  have fin : ∀ k, hT k = hT h → hU k = hU h → hK k = hK h → (∀ f c, ¬ (f = 259 ∧ c = x + 8) → hI k f c = hI h2 f c) → hI k 259 (x + 8) = hI h 259 (x + 8) + 1 → (∀ f c, ¬ f = 640 → hR k f c = hR h2 f c) → (∀ r, r < 64 → ¬ r = r0 → ∀ q, q ∈ Z r → hR k 640 q.1 = hR h 640 q.1) → (∀ c, c ∈ sp → hR k 640 c = hR h 640 c) → (∀ c j, ¬ c = x + 9 → ¬ c = x + 10 → hQ k c j = hQ h c j) → (∀ r, ¬ r = r0 → hQ k (x + 9) r = hQ h (x + 9) r ∧ hQ k (x + 10) r = hQ h (x + 10) r) → hQ k (x + 10) r0 = some a → Lnk k (hQ k (x + 9) r0) ((Z r0).map Prod.fst ++ [a]) none → Fr (PA x h) h k → ∃ k2 tg2, some k = some k2 ∧ Fr (PA x h) h k2 ∧ Rws k2 x lo tg2 (apR Z r0 [(a, r)]) ∧ Spr k2 x lo tg2 sp ∧ hI k2 259 (x + 8) = hI h 259 (x + 8) + 1 ∧ hT k2 = hT h ∧ hU k2 = hU h := by
    intro k c1 c2 c3 c4 c5 c6 c7 c8 c9 c10 c11 c12 c13
    have wds : ∀ wd2, wd2 < hT h → hK h wd2 = 10 → wd2 < hT k ∧ hK k wd2 = 10 ∧ hI k 576 wd2 = hI h 576 wd2 ∧ hI k 577 wd2 = hI h 577 wd2 := fun wd2 z1 z2 => ⟨by rw [c1]; exact z1, by rw [c3]; exact z2, by rw [c4 _ _ (fun z => by cases z.1), rI _ _ (Or.inr (by decide))], by rw [c4 _ _ (fun z => by cases z.1), rI _ _ (Or.inr (by decide))]⟩
    have qw : ∀ u j, u < 8 → j < 16 → hQ k (x + 16 + 3 * u) j = hQ h (x + 16 + 3 * u) j := fun u j hu hj => c9 _ _ (by omega) (by omega)
    have qb : ∀ j, hQ k (x + 13) j = hQ h (x + 13) j := fun j => c9 _ _ (by omega) (by omega)
    have ne : ∀ r, r < 64 → ∀ q, q ∈ Z r → ¬ (q.1 = x + 8) := fun r hr q hq z => by
      have := (R.tgr r hr q hq).2.1
      omega
    have flds : ∀ r, r < 64 → ∀ q, q ∈ Z r → ∀ f, 640 ≤ f → f ≤ 648 → ¬ f = 640 → hI k f q.1 = hI h f q.1 ∧ hR k f q.1 = hR h f q.1 := fun r hr q hq f z1 z2 z3 => by
      rw [c4 _ _ (fun z => ne r hr q hq z.2), c6 _ _ z3]
      exact cells r hr q hq f
    have rqk : ∀ r, r < 64 → ∀ q, q ∈ Z r → RqC k x q.1 q.2 := fun r hr q hq => by
      obtain ⟨t1, t2, t3⟩ := R.rqs r hr q hq
      exact t1.same (flds r hr q hq) (qw _ _ (by omega) (by omega)) (qb _) wds
    refine ⟨k, fun c => if c = a then r0 else tg c, rfl, c13, ⟨fun r hr => ?_, fun r hr => ?_, fun r2 hr q hq => ?_, fun r hr => ?_, fun r2 hr q hq => ?_⟩, ⟨?_, S.nds, fun c hc => ?_⟩, c5, c1, c2⟩
    · unfold apR
      by_cases er : r = r0
      · subst er
        rw [if_pos rfl, List.map_append]
        exact c12
      · rw [if_neg er, (c10 r er).1]
        refine (R.fst r hr).same fun c hc => ?_
        obtain ⟨rq2, q1⟩ := mem_fst hc
        exact ⟨by rw [c3], c7 r hr er _ q1⟩
    · unfold apR
      by_cases er : r = r0
      · subst er
        rw [if_pos rfl, List.map_append, c11]
        simp
      · rw [if_neg er, (c10 r er).2]
        exact R.lst r hr
    · unfold apR at hq
      by_cases er : r2 = r0
      · subst er
        rw [if_pos rfl] at hq
        rcases List.mem_append.mp hq with z | z
        · exact ⟨rqk _ hr q z, (R.rqs _ hr q z).2⟩
        · rw [List.mem_singleton] at z
          subst z
          refine ⟨?_, by rw [← e1]; exact ev, hu⟩
          refine ac.same (fun f z1 z2 z3 => ⟨c4 _ _ (fun z => nx8 z.2.symm), c6 _ _ z3⟩) ?_ ?_ (fun wd2 z1 z2 => ?_)
          · rw [o6]; exact qw _ _ (by omega) (by omega)
          · rw [o6]; exact qb _
          · rw [o1] at z1
            rw [o3] at z2
            obtain ⟨y1, y2, y3, y4⟩ := wds wd2 z1 z2
            exact ⟨y1, y2, by rw [y3, rI _ _ (Or.inr (by decide))], by rw [y4, rI _ _ (Or.inr (by decide))]⟩
      · rw [if_neg er] at hq
        exact ⟨rqk _ hr q hq, (R.rqs _ hr q hq).2⟩
    · unfold apR
      by_cases er : r = r0
      · subst er
        rw [if_pos rfl, List.map_append]
        refine List.nodup_append.mpr ⟨R.ndr _ hr, by simp, ?_⟩
        intro c hc c2 hc2
        obtain ⟨rq2, q1⟩ := mem_fst hc
        have := nZ _ hr _ q1
        simp only [List.map_cons, List.map_nil, List.mem_singleton] at hc2
        rw [hc2]
        exact this
      · rw [if_neg er]
        exact R.ndr r hr
    · unfold apR at hq
      rw [c1]
      dsimp only
      by_cases er : r2 = r0
      · subst er
        rw [if_pos rfl] at hq
        rcases List.mem_append.mp hq with z | z
        · rw [if_neg (nZ _ hr _ z)]
          exact R.tgr _ hr q z
        · rw [List.mem_singleton] at z
          subst z
          rw [if_pos rfl]
          exact ⟨rfl, la, aT⟩
      · rw [if_neg er] at hq
        rw [if_neg (nZ _ hr _ hq)]
        exact R.tgr _ hr q hq
    · rw [c6 _ _ (by decide), rR _ _ (Or.inl nx8)]
      exact S.spr.same fun c hc => ⟨by rw [c3], c8 c hc⟩
    · dsimp only
      rw [c1, if_neg (fun z => nS (by rw [← z]; exact hc))]
      exact S.tgs c hc
  rw [start]
  have spa : ∀ c, c ∈ sp → ¬ c = a := fun c hc z => nS (by rw [← z]; exact hc)
  cases eg : ((Z r0).map Prod.fst).getLast? with
  | none =>
    have em : (Z r0).map Prod.fst = [] := List.getLast?_eq_none_iff.mp eg
    rw [nu_none, l80 _ (by rw [qK_sQ]) (by rw [qN_sQ]) (fun f => by rw [qR_sQ]) (by rw [qI_sQ])]
    refine fin _ ?_ ?_ ?_ (fun f c z => ?_) ?_ (fun f c z => ?_) (fun r hr er q hq => ?_) (fun c hc => ?_) (fun c j z1 z2 => ?_) (fun r z => ?_) ?_ ?_ ?_
    · rw [qT_sI, qT_sQ, qT_sQ, o1]
    · rw [qU_sI, qU_sQ, qU_sQ, o2]
    · rw [qK_sI, qK_sQ, qK_sQ, o3]
    · rw [qI_sI, if_neg z, qI_sQ, qI_sQ]
    · rw [qI_sI, if_pos ⟨rfl, rfl⟩]
    · rw [qR_sI, qR_sQ, qR_sQ]
    · rw [qR_sI, qR_sQ, qR_sQ]
      exact (cells r hr q hq _).2
    · rw [qR_sI, qR_sQ, qR_sQ]
      exact rR _ _ (Or.inl (spa c hc))
    · rw [qQ_sI, qQ_sQ, if_neg (fun z => z2 z.1), qQ_sQ, if_neg (fun z => z1 z.1), o6]
    · rw [qQ_sI, qQ_sQ, if_neg (by omega), qQ_sQ, if_neg (fun y => z y.2), qQ_sQ, if_neg (fun y => z y.2), qQ_sQ, if_neg (by omega), o6]
      exact ⟨rfl, rfl⟩
    · rw [qQ_sI, qQ_sQ, if_pos ⟨rfl, rfl⟩]
    · rw [em, qQ_sI, qQ_sQ, if_neg (by omega), qQ_sQ, if_pos ⟨rfl, rfl⟩]
      refine ⟨rfl, by rw [qK_sI, qK_sQ, qK_sQ]; exact ka2, ?_⟩
      show hR _ _ _ = none
      rw [qR_sI, qR_sQ, qR_sQ, rn]
    · exact ((FA.cQ (Or.inr (Or.inr (Or.inr ⟨Or.inl rfl, rfl⟩)))).cQ (Or.inr (Or.inr (Or.inr ⟨Or.inr rfl, rfl⟩)))).cI (Or.inr (Or.inr (Or.inl ⟨rfl, Or.inr rfl⟩)))
  | some z =>
    obtain ⟨l0, el0⟩ := List.getLast?_eq_some_iff.mp eg
    have zm : z ∈ (Z r0).map Prod.fst := by rw [el0]; simp
    obtain ⟨rqz, qz⟩ := mem_fst zm
    have za : ¬ z = a := nZ r0 l64 _ qz
    have kz : hK h z = 11 := R.k l64 qz
    obtain ⟨tz, lz, zT⟩ := R.tgr r0 l64 _ qz
    have zsp : ∀ c, c ∈ sp → ¬ c = z := fun c hc y => by
      have := (S.tgs c hc).1
      rw [y] at this
      have t2 : tg z = r0 := tz
      omega
    have nd0 : ¬ z ∈ l0 := by
      have := R.ndr r0 l64
      rw [el0] at this
      intro y
      exact (List.nodup_append.mp this).2.2 z y z (List.mem_singleton.mpr rfl) rfl
    rw [nu_some, rq_some (by rw [o3]; exact kz), l80 _ (by rw [qK_sR]) (by rw [qN_sR]) (fun f => by rw [qR_sR, if_neg (fun y => by have := y.2; have y2 : lo ≤ z := lz; omega)]) (by rw [qI_sR])]
    refine fin _ ?_ ?_ ?_ (fun f c z => ?_) ?_ (fun f c z => ?_) (fun r hr er q hq => ?_) (fun c hc => ?_) (fun c j z1 z2 => ?_) (fun r z => ?_) ?_ ?_ ?_
    · rw [qT_sI, qT_sQ, qT_sR, o1]
    · rw [qU_sI, qU_sQ, qU_sR, o2]
    · rw [qK_sI, qK_sQ, qK_sR, o3]
    · rw [qI_sI, if_neg z, qI_sQ, qI_sR]
    · rw [qI_sI, if_pos ⟨rfl, rfl⟩]
    · rw [qR_sI, qR_sQ, qR_sR, if_neg (fun y => z y.1)]
    · rw [qR_sI, qR_sQ, qR_sR, if_neg (fun y => by
        have t1 := (R.tgr r hr q hq).1
        have t2 : tg z = r0 := tz
        rw [y.2] at t1
        omega)]
      exact (cells r hr q hq _).2
    · rw [qR_sI, qR_sQ, qR_sR, if_neg (fun y => zsp c hc y.2)]
      exact rR _ _ (Or.inl (spa c hc))
    · rw [qQ_sI, qQ_sQ, if_neg (fun z => z2 z.1), qQ_sR, o6]
    · rw [qQ_sI, qQ_sQ, if_neg (by omega), qQ_sR, qQ_sQ, if_neg (fun y => z y.2), qQ_sR, o6]
      exact ⟨rfl, rfl⟩
    · rw [qQ_sI, qQ_sQ, if_pos ⟨rfl, rfl⟩]
    · rw [qQ_sI, qQ_sQ, if_neg (by omega), qQ_sR, o6]
      have f0 := R.fst r0 l64
      rw [el0] at f0 ⊢
      obtain ⟨q, f1, f2⟩ := Lnk_app.mp f0
      rw [List.append_assoc]
      refine Lnk_app.mpr ⟨q, f1.same fun c hc => ?_, ?_⟩
      · have hcm : c ∈ (Z r0).map Prod.fst := by rw [el0]; exact List.mem_append_left _ hc
        obtain ⟨rqc, qc⟩ := mem_fst hcm
        refine ⟨by rw [qK_sI, qK_sQ, qK_sR, o3], ?_⟩
        rw [qR_sI, qR_sQ, qR_sR, if_neg (fun y => nd0 (by rw [← y.2]; exact hc))]
        exact (cells r0 l64 _ qc _).2
      · obtain ⟨g1, g2, g3⟩ := f2
        refine ⟨g1, by rw [qK_sI, qK_sQ, qK_sR, o3]; exact g2, ?_⟩
        rw [qR_sI, qR_sQ, qR_sR, if_pos ⟨rfl, rfl⟩]
        refine ⟨rfl, by rw [qK_sI, qK_sQ, qK_sR]; exact ka2, ?_⟩
        show hR _ _ _ = none
        rw [qR_sI, qR_sQ, qR_sR, if_neg (fun y => za y.2.symm), rn]
    · exact ((FA.cR (Or.inr (Or.inl kz))).cQ (Or.inr (Or.inr (Or.inr ⟨Or.inr rfl, rfl⟩)))).cI (Or.inr (Or.inr (Or.inl ⟨rfl, Or.inr rfl⟩)))
