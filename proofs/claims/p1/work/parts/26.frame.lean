/-! frames, words, warps: how the two heaps stand to each other -/
def WordIs (h : Hp) (y : Nat) (v : Int64) : Prop := (hK h y = 10) ∧ (hI h 576 y = wOp v) ∧ (hI h 577 y = wD v) ∧ (hI h 578 y = wA v) ∧ (hI h 579 y = wB v) ∧ (hI h 580 y = wN v) ∧ (hI h 581 y = bI (kKnown (wOp v) (wN v))) ∧ (hI h 582 y = kGu v) ∧ (hI h 583 y = bI (¬ (wG v &&& 4) = 0)) ∧ (hI h 584 y = bI (wOp v = 7 ∨ wOp v = 8)) ∧ (hI h 585 y = bI (kMem (wOp v))) ∧ (hI h 586 y = bI (kSh (wOp v))) ∧ (hI h 587 y = bI (kWM (wOp v))) ∧ (hI h 588 y = kWr (wOp v) (wD v)) ∧ (hI h 589 y = kNd (wOp v) (wA v) (wB v) (wN v) (kWr (wOp v) (wD v)) (kGu v) (bI (kKnown (wOp v) (wN v)))) ∧ (hI h 590 y = kWait (wOp v))
theorem WordIs.k {h : Hp} {y : Nat} {v : Int64} (H : WordIs h y v) : hK h y = 10 := H.1
theorem WordIs.op {h : Hp} {y : Nat} {v : Int64} (H : WordIs h y v) : hI h 576 y = wOp v := H.2.1
theorem WordIs.d {h : Hp} {y : Nat} {v : Int64} (H : WordIs h y v) : hI h 577 y = wD v := H.2.2.1
theorem WordIs.a {h : Hp} {y : Nat} {v : Int64} (H : WordIs h y v) : hI h 578 y = wA v := H.2.2.2.1
theorem WordIs.b {h : Hp} {y : Nat} {v : Int64} (H : WordIs h y v) : hI h 579 y = wB v := H.2.2.2.2.1
theorem WordIs.n {h : Hp} {y : Nat} {v : Int64} (H : WordIs h y v) : hI h 580 y = wN v := H.2.2.2.2.2.1
theorem WordIs.known {h : Hp} {y : Nat} {v : Int64} (H : WordIs h y v) : hI h 581 y = bI (kKnown (wOp v) (wN v)) := H.2.2.2.2.2.2.1
theorem WordIs.guard {h : Hp} {y : Nat} {v : Int64} (H : WordIs h y v) : hI h 582 y = kGu v := H.2.2.2.2.2.2.2.1
theorem WordIs.guardIsFalse {h : Hp} {y : Nat} {v : Int64} (H : WordIs h y v) : hI h 583 y = bI (¬ (wG v &&& 4) = 0) := H.2.2.2.2.2.2.2.2.1
theorem WordIs.divides {h : Hp} {y : Nat} {v : Int64} (H : WordIs h y v) : hI h 584 y = bI (wOp v = 7 ∨ wOp v = 8) := H.2.2.2.2.2.2.2.2.2.1
theorem WordIs.usesMemory {h : Hp} {y : Nat} {v : Int64} (H : WordIs h y v) : hI h 585 y = bI (kMem (wOp v)) := H.2.2.2.2.2.2.2.2.2.2.1
theorem WordIs.usesShared {h : Hp} {y : Nat} {v : Int64} (H : WordIs h y v) : hI h 586 y = bI (kSh (wOp v)) := H.2.2.2.2.2.2.2.2.2.2.2.1
theorem WordIs.waitsForMemory {h : Hp} {y : Nat} {v : Int64} (H : WordIs h y v) : hI h 587 y = bI (kWM (wOp v)) := H.2.2.2.2.2.2.2.2.2.2.2.2.1
theorem WordIs.written {h : Hp} {y : Nat} {v : Int64} (H : WordIs h y v) : hI h 588 y = kWr (wOp v) (wD v) := H.2.2.2.2.2.2.2.2.2.2.2.2.2.1
theorem WordIs.needed {h : Hp} {y : Nat} {v : Int64} (H : WordIs h y v) : hI h 589 y = kNd (wOp v) (wA v) (wB v) (wN v) (kWr (wOp v) (wD v)) (kGu v) (bI (kKnown (wOp v) (wN v))) := H.2.2.2.2.2.2.2.2.2.2.2.2.2.2.1
theorem WordIs.wait {h : Hp} {y : Nat} {v : Int64} (H : WordIs h y v) : hI h 590 y = kWait (wOp v) := H.2.2.2.2.2.2.2.2.2.2.2.2.2.2.2
theorem wSet_is (h : Hp) (y : Nat) (v : Int64) (k : hK h y = 10) : WordIs (wSet h y v) y v := by
  unfold WordIs wSet
  generalize bI (kKnown (wOp v) (wN v)) = q
  generalize wOp v = o
  generalize wD v = d
  generalize wA v = a
  generalize wB v = b
  generalize wN v = n
  generalize kGu v = gu
  generalize bI (¬ (wG v &&& 4) = 0) = gf
  generalize bI (o = 7 ∨ o = 8) = dv
  generalize bI (kMem o) = us
  generalize bI (kSh o) = ush
  generalize bI (kWM o) = wm
  generalize kWr o d = wr
  generalize kNd o a b n wr gu q = nd
  generalize kWait o = wt
  simp only [qK_sI, qI_sI, Nat.reduceEqDiff, and_self, and_true, true_and, false_and, and_false, k, if_true, if_false, reduceIte]
/-- what may have changed: fields of cells (9999: places of arrays); nothing else has -/
def Fr (P : Nat → Nat → Prop) (h k : Hp) : Prop := hT h ≤ hT k ∧ ∀ a, a < hT h → hK k a = hK h a ∧ hN k a = hN h a ∧ (∀ f, ¬ P f a → hI k f a = hI h f a ∧ hR k f a = hR h f a) ∧ (¬ P 9999 a → ∀ j, hA k a j = hA h a j ∧ hQ k a j = hQ h a j ∧ hL k a j = hL h a j)
theorem Fr.refl {P : Nat → Nat → Prop} (h : Hp) : Fr P h h := ⟨Nat.le_refl _, fun a _ => ⟨rfl, rfl, fun _ _ => ⟨rfl, rfl⟩, fun _ _ => ⟨rfl, rfl, rfl⟩⟩⟩
theorem Fr.trans {P : Nat → Nat → Prop} {h k l : Hp} (A : Fr P h k) (B : Fr P k l) : Fr P h l := by
  refine ⟨Nat.le_trans A.1 B.1, fun a ha => ?_⟩
  obtain ⟨a1, a2, a3, a4⟩ := A.2 a ha
  obtain ⟨b1, b2, b3, b4⟩ := B.2 a (Nat.lt_of_lt_of_le ha A.1)
  refine ⟨b1.trans a1, b2.trans a2, fun f q => ⟨(b3 f q).1.trans (a3 f q).1, (b3 f q).2.trans (a3 f q).2⟩, fun q j => ⟨(b4 q j).1.trans (a4 q j).1, (b4 q j).2.1.trans (a4 q j).2.1, (b4 q j).2.2.trans (a4 q j).2.2⟩⟩
theorem Fr.mono {P Q : Nat → Nat → Prop} {h k : Hp} (A : Fr P h k) (w : ∀ f a, a < hT h → P f a → Q f a) : Fr Q h k := by
  refine ⟨A.1, fun a ha => ?_⟩
  obtain ⟨a1, a2, a3, a4⟩ := A.2 a ha
  exact ⟨a1, a2, fun f q => a3 f (fun z => q (w f a ha z)), fun q => a4 (fun z => q (w _ a ha z))⟩
theorem Fr.cI {P : Nat → Nat → Prop} {h k : Hp} (A : Fr P h k) {f a : Nat} {v : Int32} (p : P f a) : Fr P h (sI k f a v) := by
  refine ⟨A.1, fun b hb => ?_⟩
  obtain ⟨a1, a2, a3, a4⟩ := A.2 b hb
  refine ⟨a1, a2, fun g q => ⟨?_, (a3 g q).2⟩, a4⟩
  rw [qI_sI, if_neg (fun z => q (by rw [z.1, z.2]; exact p))]
  exact (a3 g q).1
theorem Fr.cR {P : Nat → Nat → Prop} {h k : Hp} (A : Fr P h k) {f a : Nat} {v : Option Nat} (p : P f a) : Fr P h (sR k f a v) := by
  refine ⟨A.1, fun b hb => ?_⟩
  obtain ⟨a1, a2, a3, a4⟩ := A.2 b hb
  refine ⟨a1, a2, fun g q => ⟨(a3 g q).1, ?_⟩, a4⟩
  rw [qR_sR, if_neg (fun z => q (by rw [z.1, z.2]; exact p))]
  exact (a3 g q).2
theorem Fr.cA {P : Nat → Nat → Prop} {h k : Hp} (A : Fr P h k) {a j : Nat} {v : Int32} (p : P 9999 a) : Fr P h (sA k a j v) := by
  refine ⟨A.1, fun b hb => ?_⟩
  obtain ⟨a1, a2, a3, a4⟩ := A.2 b hb
  refine ⟨a1, a2, a3, fun q l => ⟨?_, (a4 q l).2⟩⟩
  rw [qA_sA, if_neg (fun z => q (by rw [z.1]; exact p))]
  exact (a4 q l).1
theorem Fr.cQ {P : Nat → Nat → Prop} {h k : Hp} (A : Fr P h k) {a j : Nat} {v : Option Nat} (p : P 9999 a) : Fr P h (sQ k a j v) := by
  refine ⟨A.1, fun b hb => ?_⟩
  obtain ⟨a1, a2, a3, a4⟩ := A.2 b hb
  refine ⟨a1, a2, a3, fun q l => ⟨(a4 q l).1, ?_, (a4 q l).2.2⟩⟩
  rw [qQ_sQ, if_neg (fun z => q (by rw [z.1]; exact p))]
  exact (a4 q l).2.1
theorem Fr.cL {P : Nat → Nat → Prop} {h k : Hp} (A : Fr P h k) {a j : Nat} {v : Int64} (p : P 9999 a) : Fr P h (sL k a j v) := by
  refine ⟨A.1, fun b hb => ?_⟩
  obtain ⟨a1, a2, a3, a4⟩ := A.2 b hb
  refine ⟨a1, a2, a3, fun q l => ⟨(a4 q l).1, (a4 q l).2.1, ?_⟩⟩
  rw [qL_sL, if_neg (fun z => q (by rw [z.1]; exact p))]
  exact (a4 q l).2.2
theorem Fr.cO {P : Nat → Nat → Prop} {h k : Hp} (A : Fr P h k) {g : Nat → Nat → Int32} (p : ∀ a, a < hT h → ¬ P 9999 a → ∀ j, g a j = hA k a j) : Fr P h (oA k g) := by
  refine ⟨A.1, fun b hb => ?_⟩
  obtain ⟨a1, a2, a3, a4⟩ := A.2 b hb
  refine ⟨a1, a2, a3, fun q l => ⟨?_, (a4 q l).2⟩⟩
  rw [qA_oA, p b hb q l]
  exact (a4 q l).1
theorem Fr.cN {P : Nat → Nat → Prop} {h k : Hp} (A : Fr P h k) (kd n u : Nat) : Fr P h (nw k kd n u) := by
  refine ⟨Nat.le_trans A.1 (Nat.le_succ _), fun b hb => ?_⟩
  obtain ⟨a1, a2, a3, a4⟩ := A.2 b hb
  have ne : ¬ b = hT k := Nat.ne_of_lt (Nat.lt_of_lt_of_le hb A.1)
  refine ⟨by rw [qK_nw, if_neg ne]; exact a1, by rw [qN_nw, if_neg ne]; exact a2, fun g q => ⟨by rw [qI_nw, if_neg ne]; exact (a3 g q).1, by rw [qR_nw, if_neg ne]; exact (a3 g q).2⟩, fun q l => ⟨by rw [qA_nw, if_neg ne]; exact (a4 q l).1, by rw [qQ_nw, if_neg ne]; exact (a4 q l).2.1, by rw [qL_nw, if_neg ne]; exact (a4 q l).2.2⟩⟩
theorem Fr.cx {P : Nat → Nat → Prop} {h k : Hp} (A : Fr P h k) {a c d n : Nat} {Q : Nat → Bool} {f : Nat → Int32} (p : P 9999 a) : Fr P h (oA k (fx (hA k) a c d n Q f)) := A.cO fun b _ q j => fx_o (fun e => q (by rw [e]; exact p))
theorem Fr.cf {P : Nat → Nat → Prop} {h k : Hp} (A : Fr P h k) {a c d : Nat} {f : Nat → Int32} (p : P 9999 a) : Fr P h (oA k (fr (hA k) a c d f)) := A.cO fun b _ q j => fr_o (fun e => q (by rw [e]; exact p))
theorem WordIs.same {h k : Hp} {y : Nat} {v : Int64} (W : WordIs h y v) (eK : hK k y = hK h y) (eI : ∀ f, 576 ≤ f → f ≤ 590 → hI k f y = hI h f y) : WordIs k y v := by
  unfold WordIs at *
  rw [eK, eI 576 (by decide) (by decide), eI 577 (by decide) (by decide), eI 578 (by decide) (by decide), eI 579 (by decide) (by decide), eI 580 (by decide) (by decide), eI 581 (by decide) (by decide), eI 582 (by decide) (by decide), eI 583 (by decide) (by decide), eI 584 (by decide) (by decide), eI 585 (by decide) (by decide), eI 586 (by decide) (by decide), eI 587 (by decide) (by decide), eI 588 (by decide) (by decide), eI 589 (by decide) (by decide), eI 590 (by decide) (by decide)]
  exact W
def Ws (o : Nat → Nat) (lo : Nat) (h : Hp) (s w rg pl ro pr ti L : Nat) : Prop := (hK h w = 9) ∧ (L ≤ 32) ∧ (o w = 6 * s) ∧ (lo ≤ w ∧ w < hT h) ∧ (hR h 523 w = some rg) ∧ (hK h rg = 100) ∧ (hN h rg = 16 * L) ∧ (o rg = 6 * s + 1) ∧ (lo ≤ rg ∧ rg < hT h) ∧ (hR h 524 w = some pl) ∧ (hK h pl = 100) ∧ (hN h pl = L) ∧ (o pl = 6 * s + 2) ∧ (lo ≤ pl ∧ pl < hT h) ∧ (hR h 525 w = some ro) ∧ (hK h ro = 100) ∧ (hN h ro = L) ∧ (o ro = 6 * s + 3) ∧ (lo ≤ ro ∧ ro < hT h) ∧ (hR h 526 w = some pr) ∧ (hK h pr = 100) ∧ (hN h pr = 4) ∧ (o pr = 6 * s + 4) ∧ (lo ≤ pr ∧ pr < hT h) ∧ (hR h 527 w = some ti) ∧ (hK h ti = 100) ∧ (hN h ti = 20) ∧ (o ti = 6 * s + 5) ∧ (lo ≤ ti ∧ ti < hT h)
theorem Ws.k {o : Nat → Nat} {lo : Nat} {h : Hp} {s w rg pl ro pr ti L : Nat} (H : Ws o lo h s w rg pl ro pr ti L) : hK h w = 9 := H.1
theorem Ws.l32 {o : Nat → Nat} {lo : Nat} {h : Hp} {s w rg pl ro pr ti L : Nat} (H : Ws o lo h s w rg pl ro pr ti L) : L ≤ 32 := H.2.1
theorem Ws.tw {o : Nat → Nat} {lo : Nat} {h : Hp} {s w rg pl ro pr ti L : Nat} (H : Ws o lo h s w rg pl ro pr ti L) : o w = 6 * s := H.2.2.1
theorem Ws.bw {o : Nat → Nat} {lo : Nat} {h : Hp} {s w rg pl ro pr ti L : Nat} (H : Ws o lo h s w rg pl ro pr ti L) : lo ≤ w ∧ w < hT h := H.2.2.2.1
theorem Ws.r_rg {o : Nat → Nat} {lo : Nat} {h : Hp} {s w rg pl ro pr ti L : Nat} (H : Ws o lo h s w rg pl ro pr ti L) : hR h 523 w = some rg := H.2.2.2.2.1
theorem Ws.k_rg {o : Nat → Nat} {lo : Nat} {h : Hp} {s w rg pl ro pr ti L : Nat} (H : Ws o lo h s w rg pl ro pr ti L) : hK h rg = 100 := H.2.2.2.2.2.1
theorem Ws.n_rg {o : Nat → Nat} {lo : Nat} {h : Hp} {s w rg pl ro pr ti L : Nat} (H : Ws o lo h s w rg pl ro pr ti L) : hN h rg = 16 * L := H.2.2.2.2.2.2.1
theorem Ws.t_rg {o : Nat → Nat} {lo : Nat} {h : Hp} {s w rg pl ro pr ti L : Nat} (H : Ws o lo h s w rg pl ro pr ti L) : o rg = 6 * s + 1 := H.2.2.2.2.2.2.2.1
theorem Ws.b_rg {o : Nat → Nat} {lo : Nat} {h : Hp} {s w rg pl ro pr ti L : Nat} (H : Ws o lo h s w rg pl ro pr ti L) : lo ≤ rg ∧ rg < hT h := H.2.2.2.2.2.2.2.2.1
theorem Ws.r_pl {o : Nat → Nat} {lo : Nat} {h : Hp} {s w rg pl ro pr ti L : Nat} (H : Ws o lo h s w rg pl ro pr ti L) : hR h 524 w = some pl := H.2.2.2.2.2.2.2.2.2.1
theorem Ws.k_pl {o : Nat → Nat} {lo : Nat} {h : Hp} {s w rg pl ro pr ti L : Nat} (H : Ws o lo h s w rg pl ro pr ti L) : hK h pl = 100 := H.2.2.2.2.2.2.2.2.2.2.1
theorem Ws.n_pl {o : Nat → Nat} {lo : Nat} {h : Hp} {s w rg pl ro pr ti L : Nat} (H : Ws o lo h s w rg pl ro pr ti L) : hN h pl = L := H.2.2.2.2.2.2.2.2.2.2.2.1
theorem Ws.t_pl {o : Nat → Nat} {lo : Nat} {h : Hp} {s w rg pl ro pr ti L : Nat} (H : Ws o lo h s w rg pl ro pr ti L) : o pl = 6 * s + 2 := H.2.2.2.2.2.2.2.2.2.2.2.2.1
theorem Ws.b_pl {o : Nat → Nat} {lo : Nat} {h : Hp} {s w rg pl ro pr ti L : Nat} (H : Ws o lo h s w rg pl ro pr ti L) : lo ≤ pl ∧ pl < hT h := H.2.2.2.2.2.2.2.2.2.2.2.2.2.1
theorem Ws.r_ro {o : Nat → Nat} {lo : Nat} {h : Hp} {s w rg pl ro pr ti L : Nat} (H : Ws o lo h s w rg pl ro pr ti L) : hR h 525 w = some ro := H.2.2.2.2.2.2.2.2.2.2.2.2.2.2.1
theorem Ws.k_ro {o : Nat → Nat} {lo : Nat} {h : Hp} {s w rg pl ro pr ti L : Nat} (H : Ws o lo h s w rg pl ro pr ti L) : hK h ro = 100 := H.2.2.2.2.2.2.2.2.2.2.2.2.2.2.2.1
theorem Ws.n_ro {o : Nat → Nat} {lo : Nat} {h : Hp} {s w rg pl ro pr ti L : Nat} (H : Ws o lo h s w rg pl ro pr ti L) : hN h ro = L := H.2.2.2.2.2.2.2.2.2.2.2.2.2.2.2.2.1
theorem Ws.t_ro {o : Nat → Nat} {lo : Nat} {h : Hp} {s w rg pl ro pr ti L : Nat} (H : Ws o lo h s w rg pl ro pr ti L) : o ro = 6 * s + 3 := H.2.2.2.2.2.2.2.2.2.2.2.2.2.2.2.2.2.1
theorem Ws.b_ro {o : Nat → Nat} {lo : Nat} {h : Hp} {s w rg pl ro pr ti L : Nat} (H : Ws o lo h s w rg pl ro pr ti L) : lo ≤ ro ∧ ro < hT h := H.2.2.2.2.2.2.2.2.2.2.2.2.2.2.2.2.2.2.1
theorem Ws.r_pr {o : Nat → Nat} {lo : Nat} {h : Hp} {s w rg pl ro pr ti L : Nat} (H : Ws o lo h s w rg pl ro pr ti L) : hR h 526 w = some pr := H.2.2.2.2.2.2.2.2.2.2.2.2.2.2.2.2.2.2.2.1
theorem Ws.k_pr {o : Nat → Nat} {lo : Nat} {h : Hp} {s w rg pl ro pr ti L : Nat} (H : Ws o lo h s w rg pl ro pr ti L) : hK h pr = 100 := H.2.2.2.2.2.2.2.2.2.2.2.2.2.2.2.2.2.2.2.2.1
theorem Ws.n_pr {o : Nat → Nat} {lo : Nat} {h : Hp} {s w rg pl ro pr ti L : Nat} (H : Ws o lo h s w rg pl ro pr ti L) : hN h pr = 4 := H.2.2.2.2.2.2.2.2.2.2.2.2.2.2.2.2.2.2.2.2.2.1
theorem Ws.t_pr {o : Nat → Nat} {lo : Nat} {h : Hp} {s w rg pl ro pr ti L : Nat} (H : Ws o lo h s w rg pl ro pr ti L) : o pr = 6 * s + 4 := H.2.2.2.2.2.2.2.2.2.2.2.2.2.2.2.2.2.2.2.2.2.2.1
theorem Ws.b_pr {o : Nat → Nat} {lo : Nat} {h : Hp} {s w rg pl ro pr ti L : Nat} (H : Ws o lo h s w rg pl ro pr ti L) : lo ≤ pr ∧ pr < hT h := H.2.2.2.2.2.2.2.2.2.2.2.2.2.2.2.2.2.2.2.2.2.2.2.1
theorem Ws.r_ti {o : Nat → Nat} {lo : Nat} {h : Hp} {s w rg pl ro pr ti L : Nat} (H : Ws o lo h s w rg pl ro pr ti L) : hR h 527 w = some ti := H.2.2.2.2.2.2.2.2.2.2.2.2.2.2.2.2.2.2.2.2.2.2.2.2.1
theorem Ws.k_ti {o : Nat → Nat} {lo : Nat} {h : Hp} {s w rg pl ro pr ti L : Nat} (H : Ws o lo h s w rg pl ro pr ti L) : hK h ti = 100 := H.2.2.2.2.2.2.2.2.2.2.2.2.2.2.2.2.2.2.2.2.2.2.2.2.2.1
theorem Ws.n_ti {o : Nat → Nat} {lo : Nat} {h : Hp} {s w rg pl ro pr ti L : Nat} (H : Ws o lo h s w rg pl ro pr ti L) : hN h ti = 20 := H.2.2.2.2.2.2.2.2.2.2.2.2.2.2.2.2.2.2.2.2.2.2.2.2.2.2.1
theorem Ws.t_ti {o : Nat → Nat} {lo : Nat} {h : Hp} {s w rg pl ro pr ti L : Nat} (H : Ws o lo h s w rg pl ro pr ti L) : o ti = 6 * s + 5 := H.2.2.2.2.2.2.2.2.2.2.2.2.2.2.2.2.2.2.2.2.2.2.2.2.2.2.2.1
theorem Ws.b_ti {o : Nat → Nat} {lo : Nat} {h : Hp} {s w rg pl ro pr ti L : Nat} (H : Ws o lo h s w rg pl ro pr ti L) : lo ≤ ti ∧ ti < hT h := H.2.2.2.2.2.2.2.2.2.2.2.2.2.2.2.2.2.2.2.2.2.2.2.2.2.2.2.2
theorem Ws.wp {o : Nat → Nat} {lo : Nat} {h : Hp} {s w rg pl ro pr ti L ln : Nat} (H : Ws o lo h s w rg pl ro pr ti L) (hl : hI h 514 w = nI ln) (le : ln ≤ L) : Wp h w rg pl ro pr ti ln := by
  have l32 := H.l32
  have n1 := H.n_rg
  have n2 := H.n_pl
  have n3 := H.n_ro
  have t1 := H.t_rg
  have t2 := H.t_pl
  have t3 := H.t_ro
  have t4 := H.t_pr
  have t5 := H.t_ti
  refine ⟨⟨H.k, hl, by omega⟩, ⟨H.r_rg, H.k_rg, by omega, by omega⟩, ⟨H.r_pl, H.k_pl, by omega, by omega⟩, ⟨H.r_ro, H.k_ro, by omega, by omega⟩, ⟨H.r_pr, H.k_pr, H.n_pr⟩, ⟨H.r_ti, H.k_ti, H.n_ti⟩, ?_, ?_, ?_, ?_, ?_, ?_, ?_, ?_, ?_, ?_⟩ <;> (intro e; have := congrArg o e; omega)
def Wb (hc hr : Hp) (x m s ln b w rg pl pr ti L bl : Nat) : Prop := (hR hc 512 w = some bl) ∧ (hQ hc (x + 13) b = some bl) ∧ (hA hr (m + 9) s = nI b) ∧ (b < 64) ∧ (hI hc 513 w = hA hr (m + 10) s) ∧ (∃ k, k < 16 ∧ hA hr (m + 10) s = nI k) ∧ (hI hc 514 w = nI ln) ∧ (ln ≤ L) ∧ (∀ i, i < 32 → bt (hI hc 515 w) i = decide (rLn hr m s i)) ∧ (∀ i, i < 32 → bt (hI hc 516 w) i = decide (¬ hA hr (m + 16) (32 * s + i) = 0)) ∧ (∀ i, i < 32 → bt (hI hc 517 w) i = decide (¬ hA hr (m + 17) (32 * s + i) = 0)) ∧ (∀ i, i < 32 → ¬ hA hr (m + 16) (32 * s + i) = 0 → rLn hr m s i) ∧ (∀ i, i < 32 → ¬ hA hr (m + 17) (32 * s + i) = 0 → rLn hr m s i ∧ hA hr (m + 16) (32 * s + i) = 0) ∧ (∀ i r, i < ln → r < 16 → hA hc rg (16 * i + r) = hA hr (m + 13) (16 * (32 * s + i) + r)) ∧ (∀ i, i < ln → hA hc pl i = hA hr (m + 15) (32 * s + i)) ∧ (∀ p i, p < 4 → i < 32 → bt (hA hc pr p) i = bt (hA hr (m + 14) (32 * s + i)) p) ∧ (∀ r, r < 20 → hA hc ti r = hA hr (m + 12) (20 * s + r)) ∧ (hI hc 522 w = hA hr (m + 11) s)
theorem Wb.blk {hc hr : Hp} {x m s ln b w rg pl pr ti L bl : Nat} (H : Wb hc hr x m s ln b w rg pl pr ti L bl) : hR hc 512 w = some bl := H.1
theorem Wb.bq {hc hr : Hp} {x m s ln b w rg pl pr ti L bl : Nat} (H : Wb hc hr x m s ln b w rg pl pr ti L bl) : hQ hc (x + 13) b = some bl := H.2.1
theorem Wb.sb {hc hr : Hp} {x m s ln b w rg pl pr ti L bl : Nat} (H : Wb hc hr x m s ln b w rg pl pr ti L bl) : hA hr (m + 9) s = nI b := H.2.2.1
theorem Wb.b64 {hc hr : Hp} {x m s ln b w rg pl pr ti L bl : Nat} (H : Wb hc hr x m s ln b w rg pl pr ti L bl) : b < 64 := H.2.2.2.1
theorem Wb.num {hc hr : Hp} {x m s ln b w rg pl pr ti L bl : Nat} (H : Wb hc hr x m s ln b w rg pl pr ti L bl) : hI hc 513 w = hA hr (m + 10) s := H.2.2.2.2.1
theorem Wb.wno {hc hr : Hp} {x m s ln b w rg pl pr ti L bl : Nat} (H : Wb hc hr x m s ln b w rg pl pr ti L bl) : ∃ k, k < 16 ∧ hA hr (m + 10) s = nI k := H.2.2.2.2.2.1
theorem Wb.lns {hc hr : Hp} {x m s ln b w rg pl pr ti L bl : Nat} (H : Wb hc hr x m s ln b w rg pl pr ti L bl) : hI hc 514 w = nI ln := H.2.2.2.2.2.2.1
theorem Wb.lnL {hc hr : Hp} {x m s ln b w rg pl pr ti L bl : Nat} (H : Wb hc hr x m s ln b w rg pl pr ti L bl) : ln ≤ L := H.2.2.2.2.2.2.2.1
theorem Wb.pre {hc hr : Hp} {x m s ln b w rg pl pr ti L bl : Nat} (H : Wb hc hr x m s ln b w rg pl pr ti L bl) : ∀ i, i < 32 → bt (hI hc 515 w) i = decide (rLn hr m s i) := H.2.2.2.2.2.2.2.2.1
theorem Wb.end_ {hc hr : Hp} {x m s ln b w rg pl pr ti L bl : Nat} (H : Wb hc hr x m s ln b w rg pl pr ti L bl) : ∀ i, i < 32 → bt (hI hc 516 w) i = decide (¬ hA hr (m + 16) (32 * s + i) = 0) := H.2.2.2.2.2.2.2.2.2.1
theorem Wb.wai {hc hr : Hp} {x m s ln b w rg pl pr ti L bl : Nat} (H : Wb hc hr x m s ln b w rg pl pr ti L bl) : ∀ i, i < 32 → bt (hI hc 517 w) i = decide (¬ hA hr (m + 17) (32 * s + i) = 0) := H.2.2.2.2.2.2.2.2.2.2.1
theorem Wb.le {hc hr : Hp} {x m s ln b w rg pl pr ti L bl : Nat} (H : Wb hc hr x m s ln b w rg pl pr ti L bl) : ∀ i, i < 32 → ¬ hA hr (m + 16) (32 * s + i) = 0 → rLn hr m s i := H.2.2.2.2.2.2.2.2.2.2.2.1
theorem Wb.lw {hc hr : Hp} {x m s ln b w rg pl pr ti L bl : Nat} (H : Wb hc hr x m s ln b w rg pl pr ti L bl) : ∀ i, i < 32 → ¬ hA hr (m + 17) (32 * s + i) = 0 → rLn hr m s i ∧ hA hr (m + 16) (32 * s + i) = 0 := H.2.2.2.2.2.2.2.2.2.2.2.2.1
theorem Wb.reg {hc hr : Hp} {x m s ln b w rg pl pr ti L bl : Nat} (H : Wb hc hr x m s ln b w rg pl pr ti L bl) : ∀ i r, i < ln → r < 16 → hA hc rg (16 * i + r) = hA hr (m + 13) (16 * (32 * s + i) + r) := H.2.2.2.2.2.2.2.2.2.2.2.2.2.1
theorem Wb.pla {hc hr : Hp} {x m s ln b w rg pl pr ti L bl : Nat} (H : Wb hc hr x m s ln b w rg pl pr ti L bl) : ∀ i, i < ln → hA hc pl i = hA hr (m + 15) (32 * s + i) := H.2.2.2.2.2.2.2.2.2.2.2.2.2.2.1
theorem Wb.prd {hc hr : Hp} {x m s ln b w rg pl pr ti L bl : Nat} (H : Wb hc hr x m s ln b w rg pl pr ti L bl) : ∀ p i, p < 4 → i < 32 → bt (hA hc pr p) i = bt (hA hr (m + 14) (32 * s + i)) p := H.2.2.2.2.2.2.2.2.2.2.2.2.2.2.2.1
theorem Wb.tic {hc hr : Hp} {x m s ln b w rg pl pr ti L bl : Nat} (H : Wb hc hr x m s ln b w rg pl pr ti L bl) : ∀ r, r < 20 → hA hc ti r = hA hr (m + 12) (20 * s + r) := H.2.2.2.2.2.2.2.2.2.2.2.2.2.2.2.2.1
theorem Wb.mem {hc hr : Hp} {x m s ln b w rg pl pr ti L bl : Nat} (H : Wb hc hr x m s ln b w rg pl pr ti L bl) : hI hc 522 w = hA hr (m + 11) s := H.2.2.2.2.2.2.2.2.2.2.2.2.2.2.2.2.2
def Gt (hc hr : Hp) (x m s ln w ti : Nat) : Prop := (hI hc 518 w = gmk (aA hr m s) (aP hr m s) ln) ∧ (hI hc 519 w = gpl (aA hr m s) (aP hr m s) ln) ∧ (hR hc 520 w = gaW hc (x + 2) (gpl (aA hr m s) (aP hr m s) ln)) ∧ (hI hc 521 w = gaT hc w ti (gaW hc (x + 2) (gpl (aA hr m s) (aP hr m s) ln)))
theorem Gt.grp {hc hr : Hp} {x m s ln w ti : Nat} (H : Gt hc hr x m s ln w ti) : hI hc 518 w = gmk (aA hr m s) (aP hr m s) ln := H.1
theorem Gt.plc {hc hr : Hp} {x m s ln w ti : Nat} (H : Gt hc hr x m s ln w ti) : hI hc 519 w = gpl (aA hr m s) (aP hr m s) ln := H.2.1
theorem Gt.wrd {hc hr : Hp} {x m s ln w ti : Nat} (H : Gt hc hr x m s ln w ti) : hR hc 520 w = gaW hc (x + 2) (gpl (aA hr m s) (aP hr m s) ln) := H.2.2.1
theorem Gt.rdy {hc hr : Hp} {x m s ln w ti : Nat} (H : Gt hc hr x m s ln w ti) : hI hc 521 w = gaT hc w ti (gaW hc (x + 2) (gpl (aA hr m s) (aP hr m s) ln)) := H.2.2.2
/-- the kernel -/
def Kn (hc hr : Hp) (x m : Nat) : Prop := ∀ k, k < 128 → ∃ y, hQ hc (x + 2) k = some y ∧ y < hT hc ∧ WordIs hc y (hL hr (m + 1) k)
theorem Kn.frame {P : Nat → Nat → Prop} {hc kc hr kr : Hp} {x m : Nat} (K : Kn hc hr x m) (A : Fr P hc kc) (hx : x + 2 < hT hc) (p1 : ¬ P 9999 (x + 2)) (p2 : ∀ f y, 576 ≤ f → f ≤ 590 → hK hc y = 10 → ¬ P f y) (eL : ∀ k, k < 128 → hL kr (m + 1) k = hL hr (m + 1) k) : Kn kc kr x m := by
  intro k hk
  obtain ⟨y, e1, e2, e3⟩ := K k hk
  refine ⟨y, by rw [((A.2 _ hx).2.2.2 p1 k).2.1]; exact e1, Nat.lt_of_lt_of_le e2 A.1, ?_⟩
  rw [eL k hk]
  exact e3.same (A.2 y e2).1 fun f l1 l2 => ((A.2 y e2).2.2.1 f (p2 f y l1 l2 e3.k)).1
