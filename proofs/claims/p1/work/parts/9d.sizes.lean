/-! sizes -/
theorem pw2_32 : ∀ n, n < 33 → 1 ≤ n → (nI n &&& (nI n - 1)) = 0 → n = 1 ∨ n = 2 ∨ n = 4 ∨ n = 8 ∨ n = 16 ∨ n = 32 := by decide +kernel
theorem pw2_k {n : Nat} (h : n = 1 ∨ n = 2 ∨ n = 4 ∨ n = 8 ∨ n = 16 ∨ n = 32) : ∃ k, k ≤ 5 ∧ n = 2 ^ k := by
  rcases h with h | h | h | h | h | h
  · exact ⟨0, by omega, h⟩
  · exact ⟨1, by omega, h⟩
  · exact ⟨2, by omega, h⟩
  · exact ⟨3, by omega, h⟩
  · exact ⟨4, by omega, h⟩
  · exact ⟨5, by omega, h⟩
theorem res_loop {F : Nat} {x n : Nat} (n4 : n ≤ 4096) : ∀ (d i N : Nat) (h : Hp), n - i = d → i ≤ 4096 → d < N → hK h (x + 3) = 3 → hR h 128 (x + 3) = some (x + 4) → hK h (x + 4) = 100 → hN h (x + 4) = 4096 → b_Memory_resize_5 F N (x + 3) (nI n) (nI i) h = some (sI (oA h (fr (hA h) (x + 4) i n (fun _ => 0))) 131 (x + 3) (nI n)) := by
  intro d
  induction d with
  | zero =>
    intro i N h e1 e2 e3 k1 k2 k3 k4
    obtain ⟨N, rfl⟩ : ∃ k, N = k + 1 := ⟨N - 1, by omega⟩
    rw [b_Memory_resize_5]
    dsimp only
    have e : fr (hA h) (x + 4) i n (fun _ => 0) = hA h := funext fun a => funext fun j => if_neg (fun y => by omega)
    rw [if_pos (nI_le (by omega) (by omega)), b_Memory_resize_32, gd_t k1, pw_e, e]
    rfl
  | succ d ih =>
    intro i N h e1 e2 e3 k1 k2 k3 k4
    obtain ⟨N, rfl⟩ : ∃ k, N = k + 1 := ⟨N - 1, by omega⟩
    rw [b_Memory_resize_5]
    dsimp only
    rw [if_neg (nI_ge (by omega) (by omega)), gd_t k1, rq_k k2 k3, k4, if_neg (nI_ge (by omega) (by omega)), ixn (by omega) (by decide), pw_e, nI_1, ih (i + 1) N (sA h (x + 4) i 0) (by omega) (by omega) (by omega) k1 k2 k3 k4]
    have e : fr (hA (sA h (x + 4) i 0)) (x + 4) (i + 1) n (fun _ => 0) = fr (hA h) (x + 4) i n (fun _ => 0) := funext fun a => funext fun j => by
      unfold fr
      rw [qA_sA]
      by_cases z : a = x + 4 ∧ i ≤ j ∧ j < n
      · rw [if_pos z]
        by_cases z2 : j = i
        · rw [if_neg (fun y => by omega), if_pos ⟨z.1, z2⟩]
        · rw [if_pos ⟨z.1, by omega, z.2.2⟩]
      · rw [if_neg z, if_neg (fun y => z ⟨y.1, by omega, y.2.2⟩), if_neg (fun y => z ⟨y.1, by omega, by omega⟩)]
    rw [e]
    rfl
theorem rs_loop {F : Nat} {m : Nat} {v : Int32} (hF : 40000 ≤ F) : ∀ (d i N : Nat) (h : Hp), i + d = 4096 → d < N → Md h m → b_Mod_sizes_127 F N m v (nI i) h = some (1, rHouse (rCounts (sI (sI (oA h (fr (hA h) (m + 2) i 4096 (fun _ => 0))) 710 m v) 715 m 0) m) m) := by
  intro d
  induction d with
  | zero =>
    intro i N h e1 e2 M
    obtain ⟨N, rfl⟩ : ∃ k, N = k + 1 := ⟨N - 1, by omega⟩
    rw [b_Mod_sizes_127]
    dsimp only
    have e : fr (hA h) (m + 2) i 4096 (fun _ => 0) = hA h := funext fun a => funext fun j => if_neg (fun y => by omega)
    have M1 : Md (sI (sI h 710 m v) 715 m 0) m := M.tsI.tsI
    have M2 : Md (rCounts (sI (sI h 710 m v) 715 m 0) m) m := by
      obtain ⟨a1, a2, a3, a4, a5, _⟩ := rCo_o (sI (sI h 710 m v) 715 m 0) m
      exact M1.same a3 a4 a5
    rw [if_pos (show (4096 : Int32) ≤ nI i from nI_le (a := 4096) (by omega) (by omega)), gd_t M.k, pw_e, pw_e, c_Mod_clearCounts M1.k, clv_some, gd_t M2.k, c_Mod_clearHouse M2 hF, clv_some, e]
    rfl
  | succ d ih =>
    intro i N h e1 e2 M
    obtain ⟨N, rfl⟩ : ∃ k, N = k + 1 := ⟨N - 1, by omega⟩
    rw [b_Mod_sizes_127]
    dsimp only
    rw [if_neg (show ¬ (4096 : Int32) ≤ nI i from nI_ge (b := 4096) (by omega) (by omega)), gd_t M.k, rq_k M.r_memory M.k_memory, M.n_memory, ixn (by omega) (by decide), pw_e, nI_1, ih (i + 1) N _ (by omega) (by omega) M.tsA]
    have e : fr (hA (sA h (m + 2) i 0)) (m + 2) (i + 1) 4096 (fun _ => 0) = fr (hA h) (m + 2) i 4096 (fun _ => 0) := funext fun a => funext fun j => by
      unfold fr
      rw [qA_sA]
      by_cases z : a = m + 2 ∧ i ≤ j ∧ j < 4096
      · rw [if_pos z]
        by_cases z2 : j = i
        · rw [if_neg (fun y => by omega), if_pos ⟨z.1, z2⟩]
        · rw [if_pos ⟨z.1, by omega, z.2.2⟩]
      · rw [if_neg z, if_neg (fun y => z ⟨y.1, by omega, y.2.2⟩), if_neg (fun y => z ⟨y.1, by omega, by omega⟩)]
    rw [e]
    rfl
def rSiz (H : Hp) (m n : Nat) (l s u b g : Int32) : Hp := rCounts (sI (sI (oA (sI (sI (sI (sI (sI (sI H 704 m 0) 705 m l) 706 m s) 707 m u) 708 m b) 709 m g) (fr (hA H) (m + 2) n 4096 (fun _ => 0))) 710 m (nI n)) 715 m 0) m
theorem c_Mod_sizes {F : Nat} {h : Hp} {m : Nat} (M : Md h m) (hF : 40000 ≤ F) (l s u b g i : Int32) : f_Mod_sizes F m l s u b g i h = if szOk l s u b g i ∧ ¬ rUn h m then b_Mod_sizes_127 F F m i i (sI (sI (sI (sI (sI (sI h 704 m 0) 705 m l) 706 m s) 707 m u) 708 m b) 709 m g) else some (0, sI h 704 m 0) := by
  have M0 : Md (sI h 704 m 0) m := M.tsI
  have r79 : b_Mod_sizes_79 F m l s u b g i (sI h 704 m 0) = some (0, sI h 704 m 0) := by rw [b_Mod_sizes_79, b_Mod_sizes_80, if_pos rfl]
  have un : rUn (sI h 704 m 0) m ↔ rUn h m := by unfold rUn; rw [qI_sI, if_neg (fun y => by omega)]
  have r80 : b_Mod_sizes_80 F m l s u b g i 1 (sI h 704 m 0) = if ¬ rUn h m then b_Mod_sizes_127 F F m i i (sI (sI (sI (sI (sI (sI h 704 m 0) 705 m l) 706 m s) 707 m u) 708 m b) 709 m g) else some (0, sI h 704 m 0) := by
    rw [b_Mod_sizes_80, if_neg (by decide), gd_t M0.k, c_Mod_isUnder M0.k, cl_some, bI_ite, gd_t M0.k, pw_e, pw_e, pw_e, pw_e, pw_e]
    by_cases z : rUn h m
    · rw [if_pos (un.mpr z), if_neg (fun y => y z)]
    · rw [if_neg (fun y => z (un.mp y)), if_pos z]
  rw [f_Mod_sizes, gd_t M.k, pw_e, c_Mod_isPower, cl_some, c_Mod_isPower, cl_some, c_Mod_isPower, cl_some, c_Mod_isPower, cl_some, bI_ite, bI_ite, bI_ite, bI_ite, r79, r80]
  unfold szOk
  by_cases z1 : szP l 32
  case neg => rw [if_neg z1, if_neg (fun y => z1 y.1.1)]
  rw [if_pos z1]
  by_cases z2 : s < 1
  · rw [if_pos z2, if_neg (fun y => y.1.2.1.1 z2)]
  rw [if_neg z2]
  by_cases z3 : 16 < s
  · rw [if_pos z3, if_neg (fun y => y.1.2.1.2 z3)]
  rw [if_neg z3]
  by_cases z4 : u < 1
  · rw [if_pos z4, if_neg (fun y => y.1.2.2.1.1 z4)]
  rw [if_neg z4]
  by_cases z5 : 8 < u
  · rw [if_pos z5, if_neg (fun y => y.1.2.2.1.2 z5)]
  rw [if_neg z5]
  by_cases z6 : szP b 32
  case neg => rw [if_neg z6, if_neg (fun y => z6 y.1.2.2.2.1)]
  rw [if_pos z6]
  by_cases z7 : szP g 8
  case neg => rw [if_neg z7, if_neg (fun y => z7 y.1.2.2.2.2.1)]
  rw [if_pos z7]
  by_cases z8 : i < 512
  · rw [if_pos z8, if_neg (fun y => y.1.2.2.2.2.2.2 z8)]
  rw [if_neg z8]
  by_cases z9 : szP i 4096
  case neg => rw [if_neg z9, if_neg (fun y => z9 y.1.2.2.2.2.2.1)]
  rw [if_pos z9]
  by_cases z : rUn h m
  · rw [if_neg (fun y => y z), if_neg (fun y => y.2 z)]
  · rw [if_pos z, if_pos ⟨⟨z1, ⟨z2, z3⟩, ⟨z4, z5⟩, z6, z7, z9, z8⟩, z⟩]
/-- what sizes leaves in the reference -/
def RSz (H K : Hp) (m n : Nat) (l s u b g : Int32) : Prop := (hT K = hT H ∧ hU K = hU H ∧ hK K = hK H ∧ hN K = hN H ∧ hR K = hR H ∧ hQ K = hQ H ∧ hL K = hL H) ∧ (∀ f a, ¬ a = m → hI K f a = hI H f a) ∧ (hI K 705 m = l ∧ hI K 706 m = s ∧ hI K 707 m = u ∧ hI K 708 m = b ∧ hI K 709 m = g ∧ hI K 710 m = nI n) ∧ hI K 715 m = 0 ∧ hI K 745 m = 0 ∧ hI K 726 m = hI H 726 m ∧ (∀ f, (719 ≤ f ∧ f ≤ 725) ∨ (727 ≤ f ∧ f ≤ 730) → hI K f m = 0) ∧ (∀ t, t < 128 → hA K (m + 9) t = -1) ∧ (∀ v, v < 8 → hA K (m + 5) v = 0 ∧ hA K (m + 6) v = 0 ∧ hA K (m + 7) v = s - 1 ∧ hA K (m + 8) v = 0 ∧ hA K (m + 4) v = 0) ∧ (∀ j, j < 32 → hA K (m + 3) j = -1) ∧ (∀ p, hA K (m + 2) p = if n ≤ p ∧ p < 4096 then 0 else hA H (m + 2) p) ∧ (∀ a j, ¬ (m + 2 ≤ a ∧ a ≤ m + 9) → hA K a j = hA H a j)
theorem rSiz_o (H : Hp) (m n : Nat) (l s u b g : Int32) : (hT (rSiz H m n l s u b g) = hT H ∧ hU (rSiz H m n l s u b g) = hU H ∧ hK (rSiz H m n l s u b g) = hK H ∧ hN (rSiz H m n l s u b g) = hN H ∧ hR (rSiz H m n l s u b g) = hR H ∧ hQ (rSiz H m n l s u b g) = hQ H ∧ hL (rSiz H m n l s u b g) = hL H) ∧ hA (rSiz H m n l s u b g) = fr (hA H) (m + 2) n 4096 (fun _ => 0) ∧ (∀ f a, ¬ a = m → hI (rSiz H m n l s u b g) f a = hI H f a) ∧ (∀ f, hI (rSiz H m n l s u b g) f m = if (719 ≤ f ∧ f ≤ 725) ∨ (727 ≤ f ∧ f ≤ 730) then 0 else if f = 715 then 0 else if f = 710 then nI n else if f = 709 then g else if f = 708 then b else if f = 707 then u else if f = 706 then s else if f = 705 then l else if f = 704 then 0 else hI H f m) := by
  unfold rSiz
  obtain ⟨c1, c2, c3, c4, c5, c6, c7, c8, c9⟩ := rCo_o (sI (sI (oA (sI (sI (sI (sI (sI (sI H 704 m 0) 705 m l) 706 m s) 707 m u) 708 m b) 709 m g) (fr (hA H) (m + 2) n 4096 (fun _ => 0))) 710 m (nI n)) 715 m 0) m
  have ci := rCo_i (sI (sI (oA (sI (sI (sI (sI (sI (sI H 704 m 0) 705 m l) 706 m s) 707 m u) 708 m b) 709 m g) (fr (hA H) (m + 2) n 4096 (fun _ => 0))) 710 m (nI n)) 715 m 0) m
  rw [c1, c2, c3, c4, c5, c6, c7, c8]
  refine ⟨⟨by simp only [qT_sI, qT_oA], by simp only [qU_sI, qU_oA], by simp only [qK_sI, qK_oA], by simp only [qN_sI, qN_oA], by simp only [qR_sI, qR_oA], by simp only [qQ_sI, qQ_oA], by simp only [qL_sI, qL_oA]⟩, by simp only [qA_sI, qA_oA], fun f a n => ?_, fun f => ?_⟩
  · rw [c9 f a n, qI_sI, if_neg (fun y => n y.2), qI_sI, if_neg (fun y => n y.2), qI_oA, qI_sI, if_neg (fun y => n y.2), qI_sI, if_neg (fun y => n y.2), qI_sI, if_neg (fun y => n y.2), qI_sI, if_neg (fun y => n y.2), qI_sI, if_neg (fun y => n y.2), qI_sI, if_neg (fun y => n y.2)]
  · rw [ci]
    simp only [qI_sI, qI_oA, and_true]
theorem rSz_g {H X Y : Hp} {m n : Nat} {l s u b g : Int32} (R : RUn X Y m) (c1 : hT X = hT H) (c2 : hU X = hU H) (c3 : hK X = hK H) (c4 : hN X = hN H) (c5 : hR X = hR H) (c6 : hQ X = hQ H) (c8 : hL X = hL H) (c7 : hA X = fr (hA H) (m + 2) n 4096 (fun _ => 0)) (c9 : ∀ f a, ¬ a = m → hI X f a = hI H f a) (ci : ∀ f, hI X f m = if (719 ≤ f ∧ f ≤ 725) ∨ (727 ≤ f ∧ f ≤ 730) then 0 else if f = 715 then 0 else if f = 710 then nI n else if f = 709 then g else if f = 708 then b else if f = 707 then u else if f = 706 then s else if f = 705 then l else if f = 704 then 0 else hI H f m) : RSz H (oA Y (fr (hA Y) (m + 3) 0 32 (fun _ => -1))) m n l s u b g := by
  obtain ⟨⟨g1, g2, g3, g4, g5, g6, g7⟩, g8, g9, g10, g11, g12⟩ := R
  have yI : ∀ f, ¬ (f = 745 ∨ f = 746) → hI Y f m = hI X f m := fun f n => g8 f m (fun y => n y.2)
  have e706 : hI X 706 m = s := by rw [ci]; simp
  refine ⟨⟨g1.trans c1, g2.trans c2, g3.trans c3, g4.trans c4, g5.trans c5, g6.trans c6, g7.trans c8⟩, fun f a n => ?_, ⟨?_, ?_, ?_, ?_, ?_, ?_⟩, ?_, g9, ?_, fun f hf => ?_, fun t ht => ?_, fun v hv => ?_, fun j hj => ?_, fun p => ?_, fun a j n => ?_⟩
  · rw [qI_oA, g8 f a (fun y => n y.1), c9 f a n]
  · rw [qI_oA, yI _ (by omega), ci]; simp
  · rw [qI_oA, yI _ (by omega)]; exact e706
  · rw [qI_oA, yI _ (by omega), ci]; simp
  · rw [qI_oA, yI _ (by omega), ci]; simp
  · rw [qI_oA, yI _ (by omega), ci]; simp
  · rw [qI_oA, yI _ (by omega), ci]; simp
  · rw [qI_oA, yI _ (by omega), ci]; simp
  · rw [qI_oA, yI _ (by omega), ci]; simp
  · rw [qI_oA, yI _ (by omega), ci, if_pos hf]
  · rw [qA_oA, fr_o (by omega)]; exact g10 t ht
  · rw [qA_oA, fr_o (by omega), fr_o (by omega), fr_o (by omega), fr_o (by omega), fr_o (by omega), ← e706]
    exact g11 v hv
  · rw [qA_oA, fr_i (by omega) hj]
  · rw [qA_oA, fr_o (by omega), g12 _ _ (by omega), c7]
    unfold fr
    by_cases z : n ≤ p ∧ p < 4096
    · rw [if_pos ⟨rfl, z⟩, if_pos z]
    · rw [if_neg (fun y => z y.2), if_neg z]
  · rw [qA_oA, fr_o (by omega), g12 _ _ (by omega), c7]
    rw [fr_o (by omega)]
theorem rSz (H : Hp) (m n : Nat) (l s u b g : Int32) : RSz H (rHouse (rSiz H m n l s u b g) m) m n l s u b g := by
  have R := rUn_st (rSiz H m n l s u b g) m
  obtain ⟨⟨c1, c2, c3, c4, c5, c6, c8⟩, c7, c9, ci⟩ := rSiz_o H m n l s u b g
  unfold rHouse
  exact rSz_g R c1 c2 c3 c4 c5 c6 c8 c7 c9 ci
