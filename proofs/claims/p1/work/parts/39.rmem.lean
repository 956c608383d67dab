/-! the reference: words of the memories, all lanes -/
theorem up2_fr_at {g : Nat → Nat → Int32} {a lo hi j : Nat} {f f2 : Nat → Int32} {v : Int32} (h1 : lo ≤ j) (h2 : j < hi) (e : ∀ k, lo ≤ k → f2 k = if k = j then v else f k) : up2 (fr g a lo hi f) a j v = fr g a lo hi f2 := by
  funext b k
  unfold up2 fr
  by_cases hb : b = a
  · by_cases hk : k = j
    · subst hk
      rw [if_pos ⟨hb, rfl⟩, if_pos ⟨hb, h1, h2⟩, e _ h1, if_pos rfl]
    · rw [if_neg (fun z => hk z.2)]
      by_cases q : lo ≤ k ∧ k < hi
      · rw [if_pos ⟨hb, q⟩, if_pos ⟨hb, q⟩, e _ q.1, if_neg hk]
      · rw [if_neg (fun z => q z.2), if_neg (fun z => q z.2)]
  · rw [if_neg (fun z => hb z.1), if_neg (fun z => hb z.1), if_neg (fun z => hb z.1)]
/-- shared memory: place, registers, ints -/
def shN (g : Nat → Nat → Int32) (m s d b0 : Nat) (o mk : Int32) (K : Nat → Nat) (Y : Nat → Int32) (G : Nat → Bool) (n : Nat) : Nat → Nat → Int32 := fx (fx (fr g (m + 18) (64 * b0) (64 * b0 + 64) (fun j => shM o mk K Y (fun k => g (m + 18) (64 * b0 + k)) n (j - 64 * b0))) (m + 13) (512 * s + d) 16 n (fun j => bt mk j && decide (¬ o = 53)) (fun j => shM o mk K Y (fun k => g (m + 18) (64 * b0 + k)) j (K j))) (m + 15) (32 * s) 1 n G (fun j => g (m + 15) (32 * s + j) + 1)
theorem fr_get2 {g : Nat → Nat → Int32} {a lo hi : Nat} : fr g a lo hi (fun j => g a (lo + (j - lo))) = g := by
  funext b j
  unfold fr
  split
  · next z =>
    show g a (lo + (j - lo)) = g b j
    rw [z.1, show lo + (j - lo) = j by omega]
  · rfl
theorem shN_0 (g : Nat → Nat → Int32) (m s d b0 : Nat) (o mk : Int32) (K : Nat → Nat) (Y : Nat → Int32) (G : Nat → Bool) : shN g m s d b0 o mk K Y G 0 = g := by
  unfold shN
  rw [fx_0, fx_0]
  exact fr_get2
theorem shN_o {g : Nat → Nat → Int32} {m s d b0 : Nat} {o mk : Int32} {K : Nat → Nat} {Y : Nat → Int32} {G : Nat → Bool} {n b j : Nat} (n1 : ¬ b = (m + 18)) (n2 : ¬ b = (m + 13)) (n3 : ¬ b = (m + 15)) : shN g m s d b0 o mk K Y G n b j = g b j := by
  unfold shN
  rw [fx_o n3, fx_o n2, fr_o n1]
theorem shN_pl {g : Nat → Nat → Int32} {m s d b0 : Nat} {o mk : Int32} {K : Nat → Nat} {Y : Nat → Int32} {G : Nat → Bool} {n j : Nat} (h : ∀ i, i < n → ¬ j = 32 * s + i) : shN g m s d b0 o mk K Y G n (m + 15) j = g (m + 15) j := by
  unfold shN
  rw [fx_c (fun i hi => by have := h i hi; omega), fx_o (by omega), fr_o (by omega)]
theorem shN_rg {g : Nat → Nat → Int32} {m s d b0 : Nat} {o mk : Int32} {K : Nat → Nat} {Y : Nat → Int32} {G : Nat → Bool} {n j : Nat} (h : ∀ i, i < n → ¬ j = 512 * s + d + 16 * i) : shN g m s d b0 o mk K Y G n (m + 13) j = g (m + 13) j := by
  unfold shN
  rw [fx_o (by omega), fx_c h, fr_o (by omega)]
theorem shN_sh {g : Nat → Nat → Int32} {m s d b0 : Nat} {o mk : Int32} {K : Nat → Nat} {Y : Nat → Int32} {G : Nat → Bool} {n k : Nat} (hk : k < 64) : shN g m s d b0 o mk K Y G n (m + 18) (64 * b0 + k) = shM o mk K Y (fun k => g (m + 18) (64 * b0 + k)) n k := by
  unfold shN
  rw [fx_o (by omega), fx_o (by omega), fr_i (by omega) (by omega), show 64 * b0 + k - 64 * b0 = k by omega]
theorem shM_s {o mk : Int32} {K : Nat → Nat} {Y S : Nat → Int32} {n : Nat} (q : bt mk n = true) : shM o mk K Y S (n + 1) = (fun k => if k = K n then lV o (shM o mk K Y S n (K n)) (Y n) 0 else shM o mk K Y S n k) := by
  show (if _ then _ else _) = _
  rw [if_pos q]
theorem shM_n {o mk : Int32} {K : Nat → Nat} {Y S : Nat → Int32} {n : Nat} (q : bt mk n = false) : shM o mk K Y S (n + 1) = shM o mk K Y S n := by
  show (if _ then _ else _) = _
  rw [if_neg (by rw [q]; decide)]
def shR (h : Hp) (m s d b0 : Nat) (o mk : Int32) (K : Nat → Nat) (b n : Nat) : Hp := oA h (shN (hA h) m s d b0 o mk K (fun i => aX h m s b i) (gpB h m) n)
theorem l_go318s {F : Nat} {h : Hp} {m s a b d ln b0 : Nat} {o mk : Int32} (M : Md h m) (hF : 40000 ≤ F) (hs : s < 128) (ha : hI h 758 m = nI a) (la : a < 16) (hb : hI h 759 m = nI b) (lb : b < 16) (hd : hI h 757 m = nI d) (ld : d < 16) (hl : hI h 705 m = nI ln) (l32 : ln ≤ 32) (gd1 : ∀ i, i < ln → dsB h m i = true → gpB h m i = true) (hmk : ∀ i, i < ln → bt mk i = dsB h m i) (hsb : hA h (m + 9) s = nI b0) (l64 : b0 < 64) (K : Nat → Nat) (hK2 : ∀ i, i < ln → dsB h m i = true → aS h m s a i = nI (K i) ∧ K i < 64) (ho : hI h 756 m = o) (ksh : kSh o) (v : Int32) : ∃ n, b_Mod_go_318 F F m (nI s) v 0 h = b_Mod_go_318 F (n + 1) m (nI s) v (nI ln) (shR h m s d b0 o mk K b ln) := by
  have st := iterF (fun n i => b_Mod_go_318 F n m (nI s) v (nI i) (shR h m s d b0 o mk K b i)) ln (fun i n hi => by
    have c : ¬ nI ln ≤ nI i := nI_ge hi (by omega)
    have Mi : Md (shR h m s d b0 o mk K b i) m := M.toA
    have ro : ∀ b2 j, ¬ b2 = (m + 18) → ¬ b2 = (m + 13) → ¬ b2 = (m + 15) → hA (shR h m s d b0 o mk K b i) b2 j = hA h b2 j := fun b2 j z1 z2 z3 => by unfold shR; rw [qA_oA, shN_o z1 z2 z3]
    have ri : ∀ f, hI (shR h m s d b0 o mk K b i) f m = hI h f m := fun f => by unfold shR; rw [qI_oA]
    have rp : hA (shR h m s d b0 o mk K b i) (m + 15) (32 * s + i) = hA h (m + 15) (32 * s + i) := by unfold shR; rw [qA_oA, shN_pl (fun j hj => by omega)]
    rw [b_Mod_go_318]
    dsimp only
    rw [gd_t Mi.k, ri, hl, if_neg c, rq_k Mi.r_inGroup Mi.k_inGroup, Mi.n_inGroup, ixn (by omega) (by decide), ro _ _ (by omega) (by omega) (by omega)]
    by_cases g0 : hA h (m + 26) i = 0
    · have gf : gpB h m i = false := decide_eq_false (fun z => z g0)
      have df : bt mk i = false := by
        rw [hmk i hi]
        cases z : dsB h m i with
        | false => rfl
        | true => rw [gd1 i hi z] at gf; cases gf
      rw [if_pos g0, nI_1]
      unfold shR shN
      rw [shM_n df, fx_n (Q := gpB h m) gf]
      rw [fx_n (Q := fun j => bt mk j && decide (¬ o = 53)) (by rw [df]; rfl)]
    · have gt : gpB h m i = true := decide_eq_true g0
      have Mp : ∀ v, Md (sA (shR h m s d b0 o mk K b i) (m + 15) (32 * s + i) v) m := fun v => Mi.tsA
      have qd : ∀ v, hA (sA (shR h m s d b0 o mk K b i) (m + 15) (32 * s + i) v) (m + 27) i = hA h (m + 27) i := fun v => by rw [qA_sA, if_neg (by omega), ro _ _ (by omega) (by omega) (by omega)]
      rw [if_neg g0, c_Mod_thread, cl_some, gd_t Mi.k, rq_k Mi.r_place Mi.k_place, Mi.n_place, ixn (by omega) (by decide), ixn (by omega) (by decide), pw_e, rp, rq_k (Mp _).r_does (Mp _).k_does, (Mp _).n_does, ixn (by omega) (by decide), qd]
      have pls : ∀ g2 : Nat → Nat → Int32, up2 (fx g2 (m + 15) (32 * s) 1 i (gpB h m) (fun j => hA h (m + 15) (32 * s + j) + 1)) (m + 15) (32 * s + i) (hA h (m + 15) (32 * s + i) + 1) = fx g2 (m + 15) (32 * s) 1 (i + 1) (gpB h m) (fun j => hA h (m + 15) (32 * s + j) + 1) := fun g2 => fx_y (f := fun j => hA h (m + 15) (32 * s + j) + 1) (by decide) (by omega) gt
      by_cases d0 : hA h (m + 27) i = 0
      · have df : bt mk i = false := by rw [hmk i hi]; exact decide_eq_false (fun z => z d0)
        rw [if_pos d0, nI_1]
        congr 1
        unfold shR shN
        rw [sA_oA, pls, shM_n df, fx_n (Q := fun j => bt mk j && decide (¬ o = 53)) (by rw [df]; rfl)]
      · have dt0 : dsB h m i = true := decide_eq_true d0
        have dt : bt mk i = true := by rw [hmk i hi]; exact dt0
        obtain ⟨k1, k2⟩ := hK2 i hi dt0
        have qa : ∀ b2 j, ¬ b2 = (m + 18) → ¬ b2 = (m + 13) → ¬ b2 = (m + 15) → hA (sA (shR h m s d b0 o mk K b i) (m + 15) (32 * s + i) (hA h (m + 15) (32 * s + i) + 1)) b2 j = hA h b2 j := fun b2 j z1 z2 z3 => by rw [qA_sA, if_neg (fun z => z3 z.1), ro _ _ z1 z2 z3]
        have qr : ∀ r, r < 16 → hA (sA (shR h m s d b0 o mk K b i) (m + 15) (32 * s + i) (hA h (m + 15) (32 * s + i) + 1)) (m + 13) (16 * (32 * s + i) + r) = hA h (m + 13) (16 * (32 * s + i) + r) := fun r hr => by
          rw [qA_sA, if_neg (by omega)]
          unfold shR
          rw [qA_oA, shN_rg (fun j hj => by omega)]
        have qs : hA (sA (shR h m s d b0 o mk K b i) (m + 15) (32 * s + i) (hA h (m + 15) (32 * s + i) + 1)) (m + 18) (64 * b0 + K i) = shM o mk K (fun i => aX h m s b i) (fun k => hA h (m + 18) (64 * b0 + k)) i (K i) := by
          rw [qA_sA, if_neg (by omega)]
          unfold shR
          rw [qA_oA, shN_sh k2]
        have qi : ∀ f, hI (sA (shR h m s d b0 o mk K b i) (m + 15) (32 * s + i) (hA h (m + 15) (32 * s + i) + 1)) f m = hI h f m := fun f => by rw [qI_sA, ri]
        have ac : f_Mod_act F m (nI s) (nI i) (nI (32 * s + i)) (hA h (m + 15) (32 * s + i)) (sA (shR h m s d b0 o mk K b i) (m + 15) (32 * s + i) (hA h (m + 15) (32 * s + i) + 1)) = some (tchH (sA (shR h m s d b0 o mk K b i) (m + 15) (32 * s + i) (hA h (m + 15) (32 * s + i) + 1)) m s (16 * (32 * s + i) + d) o (K i) b0 (hA h (m + 13) (16 * (32 * s + i) + b))) := by
          rw [← qr b lb]
          have hg : hA (sA (shR h m s d b0 o mk K b i) (m + 15) (32 * s + i) (hA h (m + 15) (32 * s + i) + 1)) (m + 13) (16 * (32 * s + i) + a) + hI (sA (shR h m s d b0 o mk K b i) (m + 15) (32 * s + i) (hA h (m + 15) (32 * s + i) + 1)) 761 m = nI (K i) := by
            rw [qr a la, qi]
            exact k1
          have hb2 : hA (sA (shR h m s d b0 o mk K b i) (m + 15) (32 * s + i) (hA h (m + 15) (32 * s + i) + 1)) (m + 9) s = nI b0 := by rw [qa _ _ (by omega) (by omega) (by omega)]; exact hsb
          have ho2 : hI (sA (shR h m s d b0 o mk K b i) (m + 15) (32 * s + i) (hA h (m + 15) (32 * s + i) + 1)) 756 m = o := by rw [qi]; exact ho
          rcases ksh with z | z | z | z
          · subst z
            exact ra_52 (Mp _) hs (by omega) rfl (by rw [qi]; exact ha) la (by rw [qi]; exact hb) lb (by rw [qi]; exact hd) ld hg k2 hb2 l64 ho2
          · subst z
            exact ra_53 (Mp _) hs (by omega) rfl (by rw [qi]; exact ha) la (by rw [qi]; exact hb) lb (by rw [qi]; exact hd) ld hg k2 hb2 l64 ho2
          · subst z
            exact ra_58 (Mp _) hs (by omega) rfl (by rw [qi]; exact ha) la (by rw [qi]; exact hb) lb (by rw [qi]; exact hd) ld hg k2 hb2 l64 ho2
          · subst z
            exact ra_59 (Mp _) hs (by omega) rfl (by rw [qi]; exact ha) la (by rw [qi]; exact hb) lb (by rw [qi]; exact hd) ld hg k2 hb2 l64 ho2
        rw [if_neg d0, ac, clv_some, nI_1]
        congr 1
        unfold tchH
        rw [qs]
        have n1 : ¬ (m + 13) = (m + 15) := by omega
        have n2 : ¬ (m + 18) = (m + 15) := by omega
        have n3 : ¬ (m + 18) = (m + 13) := by omega
        have shs : ∀ g2 : Nat → Nat → Int32, up2 (fr g2 (m + 18) (64 * b0) (64 * b0 + 64) (fun j => shM o mk K (fun i => aX h m s b i) (fun k => hA h (m + 18) (64 * b0 + k)) i (j - 64 * b0))) (m + 18) (64 * b0 + K i) (lV o (shM o mk K (fun i => aX h m s b i) (fun k => hA h (m + 18) (64 * b0 + k)) i (K i)) (hA h (m + 13) (16 * (32 * s + i) + b)) 0) = fr g2 (m + 18) (64 * b0) (64 * b0 + 64) (fun j => shM o mk K (fun i => aX h m s b i) (fun k => hA h (m + 18) (64 * b0 + k)) (i + 1) (j - 64 * b0)) := fun g2 => up2_fr_at (by omega) (by omega) (fun k hk => by
          rw [shM_s dt]
          dsimp only
          by_cases z : k = 64 * b0 + K i
          · rw [if_pos z, if_pos (by omega)]
          · rw [if_neg z, if_neg (by omega)])
        by_cases c53 : o = 53
        · rw [if_pos c53]
          unfold shR shN
          rw [sA_oA, sA_oA, pls, up2_fx n2, up2_fx n3, shs]
          rw [fx_n (Q := fun j => bt mk j && decide (¬ o = 53)) (n := i) (by rw [c53]; simp)]
        · rw [if_neg c53]
          have rgs : ∀ g2 : Nat → Nat → Int32, up2 (fx g2 (m + 13) (512 * s + d) 16 i (fun j => bt mk j && decide (¬ o = 53)) (fun j => shM o mk K (fun i => aX h m s b i) (fun k => hA h (m + 18) (64 * b0 + k)) j (K j))) (m + 13) (16 * (32 * s + i) + d) (shM o mk K (fun i => aX h m s b i) (fun k => hA h (m + 18) (64 * b0 + k)) i (K i)) = fx g2 (m + 13) (512 * s + d) 16 (i + 1) (fun j => bt mk j && decide (¬ o = 53)) (fun j => shM o mk K (fun i => aX h m s b i) (fun k => hA h (m + 18) (64 * b0 + k)) j (K j)) := fun g2 => fx_y (Q := fun j => bt mk j && decide (¬ o = 53)) (f := fun j => shM o mk K (fun i => aX h m s b i) (fun k => hA h (m + 18) (64 * b0 + k)) j (K j)) (by decide) (by omega) (by rw [dt, decide_eq_true c53]; rfl)
          unfold shR shN
          rw [sA_oA, sA_oA, sA_oA, pls, up2_fx n1, rgs, up2_fx n2, up2_fx n3, shs]) (F := F) (by omega)
  have e0 : shR h m s d b0 o mk K b 0 = h := by unfold shR; rw [shN_0, oA_self]
  rw [e0, nI_0] at st
  exact ⟨_, st⟩
/-! what is on its way -/
theorem opA (o : Int32) (k : kMem o) (s : ¬ kSh o) : o = 50 ∨ o = 51 ∨ o = 54 ∨ o = 55 ∨ o = 56 ∨ o = 57 := by
  unfold kMem at k
  unfold kSh at s
  simp only [Int32.lt_iff_toInt_lt, Int32.le_iff_toInt_le, ← Int32.toInt_inj] at *
  simp only [show (50 : Int32).toInt = 50 by decide, show (51 : Int32).toInt = 51 by decide, show (52 : Int32).toInt = 52 by decide, show (53 : Int32).toInt = 53 by decide, show (54 : Int32).toInt = 54 by decide, show (55 : Int32).toInt = 55 by decide, show (56 : Int32).toInt = 56 by decide, show (57 : Int32).toInt = 57 by decide, show (58 : Int32).toInt = 58 by decide, show (59 : Int32).toInt = 59 by decide] at *
  omega
abbrev Rq : Type := Int32 × Nat × Nat × Nat × Nat × Nat × Nat × Int32 × Int32
abbrev Rq.t (r : Rq) : Int32 := r.1
abbrev Rq.s (r : Rq) : Nat := r.2.1
abbrev Rq.i (r : Rq) : Nat := r.2.2.1
abbrev Rq.b (r : Rq) : Nat := r.2.2.2.1
abbrev Rq.o (r : Rq) : Nat := r.2.2.2.2.1
abbrev Rq.d (r : Rq) : Nat := r.2.2.2.2.2.1
abbrev Rq.p (r : Rq) : Nat := r.2.2.2.2.2.2.1
abbrev Rq.y (r : Rq) : Int32 := r.2.2.2.2.2.2.2.1
abbrev Rq.w (r : Rq) : Int32 := r.2.2.2.2.2.2.2.2
def RqR (h : Hp) (m k : Nat) (r : Rq) : Prop := hA h (m + 19) k = r.t ∧ hA h (m + 20) k = nI (32 * (128 * r.b + r.s) + r.i) ∧ hA h (m + 21) k = nI (16 * r.o + r.d) ∧ hA h (m + 22) k = nI r.p ∧ hA h (m + 23) k = r.y ∧ hA h (m + 24) k = r.w
def Pd (h : Hp) (m : Nat) (L : List Rq) : Prop := hI h 745 m = nI L.length ∧ (∀ k r, L[k]? = some r → RqR h m k r) ∧ ∀ r, r ∈ L → hI h 746 m ≤ r.t
theorem Pd.same {h k : Hp} {m : Nat} {L : List Rq} (P : Pd h m L) (e1 : hI k 745 m = hI h 745 m) (e2 : hI k 746 m = hI h 746 m) (e3 : ∀ a j, (m + 19) ≤ a → a ≤ (m + 24) → hA k a j = hA h a j) : Pd k m L := by
  obtain ⟨p1, p2, p3⟩ := P
  refine ⟨by rw [e1]; exact p1, fun i r q => ?_, by rw [e2]; exact p3⟩
  have := p2 i r q
  unfold RqR at *
  rw [e3 _ _ (by omega) (by omega), e3 _ _ (by omega) (by omega), e3 _ _ (by omega) (by omega), e3 _ _ (by omega) (by omega), e3 _ _ (by omega) (by omega), e3 _ _ (by omega) (by omega)]
  exact this
theorem i_le_trans {a b c : Int32} (h1 : a ≤ b) (h2 : b ≤ c) : a ≤ c := by
  rw [Int32.le_iff_toInt_le] at *
  omega
theorem i_nle {a b : Int32} (h : ¬ a ≤ b) : b ≤ a := by
  rw [Int32.le_iff_toInt_le] at *
  omega
theorem i_le_refl (a : Int32) : a ≤ a := by
  rw [Int32.le_iff_toInt_le]
  omega
theorem Pd.ask {h : Hp} {m s i b o d p : Nat} {y w : Int32} {L : List Rq} (P : Pd h m L) (hb : hA h (m + 9) s = nI b) (ho : hI h 756 m = nI o) (hd : hI h 757 m = nI d) : Pd (askH h m s i L.length (nI p) y w) m (L ++ [⟨hA h (m + 25) i, s, i, b, o, d, p, y, w⟩]) := by
  obtain ⟨p1, p2, p3⟩ := P
  have rI : ∀ f, hI (askH h m s i L.length (nI p) y w) f m = if f = 745 then nI (L.length + 1) else if f = 746 then (if hI h 746 m ≤ hA h (m + 25) i then hI h 746 m else hA h (m + 25) i) else hI h f m := fun f => by
    unfold askH
    simp only [qI_sI, qI_sA, and_true]
  have rA : ∀ a j, hA (askH h m s i L.length (nI p) y w) a j = if a = (m + 24) ∧ j = L.length then w else if a = (m + 23) ∧ j = L.length then y else if a = (m + 22) ∧ j = L.length then nI p else if a = (m + 21) ∧ j = L.length then 16 * hI h 756 m + hI h 757 m else if a = (m + 20) ∧ j = L.length then 32 * (128 * hA h (m + 9) s + nI s) + nI i else if a = (m + 19) ∧ j = L.length then hA h (m + 25) i else hA h a j := fun a j => by
    unfold askH
    simp only [qA_sI, qA_sA, qI_sI, qI_sA, Nat.add_left_cancel_iff, Nat.reduceEqDiff, false_and, if_false]
  refine ⟨by rw [rI, if_pos rfl, List.length_append]; rfl, fun k r q => ?_, fun r q => ?_⟩
  · by_cases hk : k < L.length
    · rw [List.getElem?_append_left hk] at q
      have := p2 k r q
      unfold RqR at *
      simp only [rA, show ¬ k = L.length by omega, and_false, if_false]
      exact this
    · have hk2 : k = L.length := by
        rcases Nat.lt_or_ge k (L.length + 1) with z | z
        · omega
        · rw [List.getElem?_eq_none (by rw [List.length_append]; exact z)] at q
          cases q
      subst hk2
      rw [List.getElem?_append_right (Nat.le_refl _), Nat.sub_self] at q
      simp only [List.getElem?_cons_zero, Option.some.injEq] at q
      subst q
      have w1 : 32 * (128 * hA h (m + 9) s + nI s) + nI i = nI (32 * (128 * b + s) + i) := by rw [hb, n_128, nI_add, n_32, nI_add]
      have w2 : 16 * hI h 756 m + hI h 757 m = nI (16 * o + d) := by rw [ho, hd, n_16, nI_add]
      have c1 : ¬ (m + 19) = (m + 24) := by omega
      have c2 : ¬ (m + 19) = (m + 23) := by omega
      have c3 : ¬ (m + 19) = (m + 22) := by omega
      have c4 : ¬ (m + 19) = (m + 21) := by omega
      have c5 : ¬ (m + 19) = (m + 20) := by omega
      have c6 : ¬ (m + 20) = (m + 24) := by omega
      have c7 : ¬ (m + 20) = (m + 23) := by omega
      have c8 : ¬ (m + 20) = (m + 22) := by omega
      have c9 : ¬ (m + 20) = (m + 21) := by omega
      have c10 : ¬ (m + 21) = (m + 24) := by omega
      have c11 : ¬ (m + 21) = (m + 23) := by omega
      have c12 : ¬ (m + 21) = (m + 22) := by omega
      have c13 : ¬ (m + 22) = (m + 24) := by omega
      have c14 : ¬ (m + 22) = (m + 23) := by omega
      have c15 : ¬ (m + 23) = (m + 24) := by omega
      refine ⟨?_, ?_, ?_, ?_, ?_, ?_⟩
      · rw [rA, if_neg (fun z => c1 z.1), if_neg (fun z => c2 z.1), if_neg (fun z => c3 z.1), if_neg (fun z => c4 z.1), if_neg (fun z => c5 z.1), if_pos ⟨rfl, rfl⟩]
      · rw [rA, if_neg (fun z => c6 z.1), if_neg (fun z => c7 z.1), if_neg (fun z => c8 z.1), if_neg (fun z => c9 z.1), if_pos ⟨rfl, rfl⟩, w1]
      · rw [rA, if_neg (fun z => c10 z.1), if_neg (fun z => c11 z.1), if_neg (fun z => c12 z.1), if_pos ⟨rfl, rfl⟩, w2]
      · rw [rA, if_neg (fun z => c13 z.1), if_neg (fun z => c14 z.1), if_pos ⟨rfl, rfl⟩]
      · rw [rA, if_neg (fun z => c15 z.1), if_pos ⟨rfl, rfl⟩]
      · rw [rA, if_pos ⟨rfl, rfl⟩]
  · rw [rI, if_neg (by decide), if_pos rfl]
    rcases List.mem_append.mp q with z | z
    · split
      · exact p3 r z
      · next e => exact i_le_trans (i_nle e) (p3 r z)
    · rw [List.mem_singleton] at z
      subst z
      split
      · next e => exact e
      · exact i_le_refl _
/-- the requests of the lanes below n -/
def lnR (D : Nat → Bool) (R : Nat → Rq) : Nat → List Rq
  | 0 => []
  | n + 1 => if D n = true then lnR D R n ++ [R n] else lnR D R n
theorem lnR_len (D : Nat → Bool) (R : Nat → Rq) : ∀ n, (lnR D R n).length ≤ n := by
  intro n
  induction n with
  | zero => exact Nat.le_refl _
  | succ n ih =>
    unfold lnR
    split
    · rw [List.length_append]; simp only [List.length_cons, List.length_nil]; omega
    · omega
def plN (h : Hp) (m s n : Nat) : Nat → Int32 := fun j => fx (hA h) (m + 15) (32 * s) 1 n (gpB h m) (fun j => hA h (m + 15) (32 * s + j) + 1) (m + 15) j
/-- the request of a lane -/
def rqO (h : Hp) (m s a b d b0 o : Nat) (K : Nat → Nat) (i : Nat) : Rq := ⟨hA h (m + 25) i, s, i, b0, o, d, K i, hA h (m + 13) (16 * (32 * s + i) + b), hA h (m + 13) (16 * (32 * s + i) + d)⟩
theorem l_go318a {F : Nat} {h : Hp} {m s a b d ln b0 o : Nat} {L : List Rq} (M : Md h m) (hF : 40000 ≤ F) (hs : s < 128) (ha : hI h 758 m = nI a) (la : a < 16) (hb : hI h 759 m = nI b) (lb : b < 16) (hd : hI h 757 m = nI d) (ld : d < 16) (hl : hI h 705 m = nI ln) (l32 : ln ≤ 32) (gd1 : ∀ i, i < ln → dsB h m i = true → gpB h m i = true) (hsb : hA h (m + 9) s = nI b0) (l64 : b0 < 64) (K : Nat → Nat) (hK2 : ∀ i, i < ln → dsB h m i = true → aS h m s a i = nI (K i) ∧ K i < 4096) (ho : hI h 756 m = nI o) (km : kMem (nI o)) (ks : ¬ kSh (nI o)) (P : Pd h m L) (l4 : L.length ≤ 8000) (v : Int32) : ∀ i, i ≤ ln → ∃ H, b_Mod_go_318 F F m (nI s) v 0 h = b_Mod_go_318 F (F - i) m (nI s) v (nI i) H ∧ Rf m (fun f => f = 745 ∨ f = 746) (fun a => a = (m + 15) ∨ ((m + 19) ≤ a ∧ a ≤ (m + 24))) h H ∧ (∀ j, hA H (m + 15) j = plN h m s i j) ∧ Pd H m (L ++ lnR (dsB h m) (rqO h m s a b d b0 o K) i) := by
  intro i
  induction i with
  | zero =>
    intro _
    refine ⟨h, by rw [nI_0]; rfl, Rf.refl h, fun j => by unfold plN; rw [fx_0], ?_⟩
    unfold lnR
    rw [List.append_nil]
    exact P
  | succ i ih =>
    intro hi
    obtain ⟨H, e1, R, pl, PH⟩ := ih (by omega)
    have c : ¬ nI ln ≤ nI i := nI_ge (by omega) (by omega)
    have MH : Md H m := R.md M
    obtain ⟨f, hf⟩ : ∃ f, F - i = f + 1 := ⟨F - i - 1, by omega⟩
    have hf2 : F - (i + 1) = f := by omega
    have ra : ∀ b2 j, ¬ b2 = (m + 15) → ¬ ((m + 19) ≤ b2 ∧ b2 ≤ (m + 24)) → hA H b2 j = hA h b2 j := fun b2 j z1 z2 => R.a (fun z => z.elim z1 z2) j
    have ri : ∀ f, ¬ f = 745 → ¬ f = 746 → hI H f m = hI h f m := fun f z1 z2 => R.i (fun z => z.elim z1 z2)
    have rp : hA H (m + 15) (32 * s + i) = hA h (m + 15) (32 * s + i) := by rw [pl]; unfold plN; rw [fx_c (fun j hj => by omega)]
    rw [hf, b_Mod_go_318] at e1
    dsimp only at e1
    rw [gd_t MH.k, ri _ (by decide) (by decide), hl, if_neg c, rq_k MH.r_inGroup MH.k_inGroup, MH.n_inGroup, ixn (by omega) (by decide), ra _ _ (by omega) (by omega)] at e1
    have ls : lnR (dsB h m) (rqO h m s a b d b0 o K) (i + 1) = if dsB h m i = true then lnR (dsB h m) (rqO h m s a b d b0 o K) i ++ [rqO h m s a b d b0 o K i] else lnR (dsB h m) (rqO h m s a b d b0 o K) i := rfl
    by_cases g0 : hA h (m + 26) i = 0
    · have gf : gpB h m i = false := decide_eq_false (fun z => z g0)
      have df : dsB h m i = false := by
        cases z : dsB h m i with
        | false => rfl
        | true => rw [gd1 i (by omega) z] at gf; cases gf
      rw [if_pos g0, nI_1] at e1
      refine ⟨H, by rw [hf2]; exact e1, R, fun j => ?_, ?_⟩
      · rw [pl]; unfold plN; rw [fx_n gf]
      · rw [ls, if_neg (by rw [df]; decide)]; exact PH
    · have gt : gpB h m i = true := decide_eq_true g0
      have Mp : Md (sA H (m + 15) (32 * s + i) (hA h (m + 15) (32 * s + i) + 1)) m := MH.tsA
      have qd : hA (sA H (m + 15) (32 * s + i) (hA h (m + 15) (32 * s + i) + 1)) (m + 27) i = hA h (m + 27) i := by rw [qA_sA, if_neg (by omega), ra _ _ (by omega) (by omega)]
      rw [if_neg g0, c_Mod_thread, cl_some, gd_t MH.k, rq_k MH.r_place MH.k_place, MH.n_place, ixn (by omega) (by decide), ixn (by omega) (by decide), pw_e, rp, rq_k Mp.r_does Mp.k_does, Mp.n_does, ixn (by omega) (by decide), qd] at e1
      have Rp : Rf m (fun f => f = 745 ∨ f = 746) (fun a => a = (m + 15) ∨ ((m + 19) ≤ a ∧ a ≤ (m + 24))) h (sA H (m + 15) (32 * s + i) (hA h (m + 15) (32 * s + i) + 1)) := R.cA (Or.inl rfl)
      have Pp : Pd (sA H (m + 15) (32 * s + i) (hA h (m + 15) (32 * s + i) + 1)) m (L ++ lnR (dsB h m) (rqO h m s a b d b0 o K) i) := PH.same (by rw [qI_sA]) (by rw [qI_sA]) (fun a j z1 z2 => by rw [qA_sA, if_neg (by omega)])
      have plp : ∀ j, hA (sA H (m + 15) (32 * s + i) (hA h (m + 15) (32 * s + i) + 1)) (m + 15) j = plN h m s (i + 1) j := fun j => by
        have := congrFun (congrFun (fx_y (g := hA h) (a := (m + 15)) (c := 32 * s) (k := 1) (n := i) (j := 32 * s + i) (Q := gpB h m) (f := fun j => hA h (m + 15) (32 * s + j) + 1) (by decide) (by omega) gt) (m + 15)) j
        unfold plN
        rw [← this, qA_sA, pl]
        rfl
      by_cases d0 : hA h (m + 27) i = 0
      · have df : dsB h m i = false := decide_eq_false (fun z => z d0)
        rw [if_pos d0, nI_1] at e1
        refine ⟨_, by rw [hf2]; exact e1, Rp, plp, ?_⟩
        rw [ls, if_neg (by rw [df]; decide)]
        exact Pp
      · have dt : dsB h m i = true := decide_eq_true d0
        obtain ⟨k1, k2⟩ := hK2 i (by omega) dt
        have pi2 : ∀ f, ¬ f = 745 → ¬ f = 746 → hI (sA H (m + 15) (32 * s + i) (hA h (m + 15) (32 * s + i) + 1)) f m = hI h f m := fun f z1 z2 => by rw [qI_sA, ri f z1 z2]
        have pa2 : ∀ b2 j, ¬ b2 = (m + 15) → ¬ ((m + 19) ≤ b2 ∧ b2 ≤ (m + 24)) → hA (sA H (m + 15) (32 * s + i) (hA h (m + 15) (32 * s + i) + 1)) b2 j = hA h b2 j := fun b2 j z1 z2 => by rw [qA_sA, if_neg (fun z => z1 z.1), ra b2 j z1 z2]
        have q1 := Pp.1
        have q2 : (L ++ lnR (dsB h m) (rqO h m s a b d b0 o K) i).length < 32768 := by
          have := lnR_len (dsB h m) (rqO h m s a b d b0 o K) i
          rw [List.length_append]
          omega
        have eas : aS (sA H (m + 15) (32 * s + i) (hA h (m + 15) (32 * s + i) + 1)) m s a i = nI (K i) := by
          unfold aS
          rw [pa2 _ _ (by omega) (by omega), pi2 _ (by decide) (by decide)]
          exact k1
        have ac : f_Mod_act F m (nI s) (nI i) (nI (32 * s + i)) (hA h (m + 15) (32 * s + i)) (sA H (m + 15) (32 * s + i) (hA h (m + 15) (32 * s + i) + 1)) = some (askH (sA H (m + 15) (32 * s + i) (hA h (m + 15) (32 * s + i) + 1)) m s i (L ++ lnR (dsB h m) (rqO h m s a b d b0 o K) i).length (nI (K i)) (hA h (m + 13) (16 * (32 * s + i) + b)) (hA h (m + 13) (16 * (32 * s + i) + d))) := by
          rw [← eas, ← pa2 (m + 13) (16 * (32 * s + i) + b) (by omega) (by omega), ← pa2 (m + 13) (16 * (32 * s + i) + d) (by omega) (by omega)]
          have ho2 : hI (sA H (m + 15) (32 * s + i) (hA h (m + 15) (32 * s + i) + 1)) 756 m = nI o := by rw [pi2 _ (by decide) (by decide)]; exact ho
          have oc := opA (nI o) km ks
          have ha2 : hI (sA H (m + 15) (32 * s + i) (hA h (m + 15) (32 * s + i) + 1)) 758 m = nI a := by rw [pi2 _ (by decide) (by decide)]; exact ha
          have hb2 : hI (sA H (m + 15) (32 * s + i) (hA h (m + 15) (32 * s + i) + 1)) 759 m = nI b := by rw [pi2 _ (by decide) (by decide)]; exact hb
          have hd2 : hI (sA H (m + 15) (32 * s + i) (hA h (m + 15) (32 * s + i) + 1)) 757 m = nI d := by rw [pi2 _ (by decide) (by decide)]; exact hd
          rcases oc with z | z | z | z | z | z
          · exact ra_50 Mp hs (by omega) rfl ha2 la hb2 lb hd2 ld q1 q2 (by rw [ho2, z])
          · exact ra_51 Mp hs (by omega) rfl ha2 la hb2 lb hd2 ld q1 q2 (by rw [ho2, z])
          · exact ra_54 Mp hs (by omega) rfl ha2 la hb2 lb hd2 ld q1 q2 (by rw [ho2, z])
          · exact ra_55 Mp hs (by omega) rfl ha2 la hb2 lb hd2 ld q1 q2 (by rw [ho2, z])
          · exact ra_56 Mp hs (by omega) rfl ha2 la hb2 lb hd2 ld q1 q2 (by rw [ho2, z])
          · exact ra_57 Mp hs (by omega) rfl ha2 la hb2 lb hd2 ld q1 q2 (by rw [ho2, z])
        rw [if_neg d0, ac, clv_some, nI_1] at e1
        have Pn := Pp.ask (s := s) (i := i) (b := b0) (o := o) (d := d) (p := K i) (y := hA h (m + 13) (16 * (32 * s + i) + b)) (w := hA h (m + 13) (16 * (32 * s + i) + d)) (by rw [pa2 _ _ (by omega) (by omega)]; exact hsb) (by rw [pi2 _ (by decide) (by decide)]; exact ho) (by rw [pi2 _ (by decide) (by decide)]; exact hd)
        refine ⟨_, by rw [hf2]; exact e1, ?_, fun j => ?_, ?_⟩
        · unfold askH
          exact (((((((Rp.cA (Or.inr ⟨by omega, by omega⟩)).cI (Or.inr rfl)).cA (Or.inr ⟨by omega, by omega⟩)).cA (Or.inr ⟨by omega, by omega⟩)).cA (Or.inr ⟨by omega, by omega⟩)).cA (Or.inr ⟨by omega, by omega⟩)).cA (Or.inr ⟨by omega, by omega⟩)).cI (Or.inl rfl)
        · rw [← plp j]
          unfold askH
          have c1 : ¬ (m + 15) = (m + 24) := by omega
          have c2 : ¬ (m + 15) = (m + 23) := by omega
          have c3 : ¬ (m + 15) = (m + 22) := by omega
          have c4 : ¬ (m + 15) = (m + 21) := by omega
          have c5 : ¬ (m + 15) = (m + 20) := by omega
          have c6 : ¬ (m + 15) = (m + 19) := by omega
          rw [qA_sI, qA_sA, if_neg (fun z => c1 z.1), qA_sA, if_neg (fun z => c2 z.1), qA_sA, if_neg (fun z => c3 z.1), qA_sA, if_neg (fun z => c4 z.1), qA_sA, if_neg (fun z => c5 z.1), qA_sI, qA_sA, if_neg (fun z => c6 z.1)]
        · rw [ls, if_pos dt, ← List.append_assoc]
          rw [pa2 (m + 25) i (by omega) (by omega)] at Pn
          exact Pn
