/-! shared memory, in the class (the first rows begun as a paste of kit/laws/BITS) -/
theorem ts_bit {w : Int64} {s : UInt64} {j : Nat} (hj : j < 64) (hs : s.toNat = j) : ((w.toUInt64 >>> s).toInt64 &&& 1) = 0 ↔ w.toBitVec.getLsbD j = false := by
  have e : (w.toUInt64 >>> s).toInt64.toBitVec = w.toBitVec >>> j := by
    apply BitVec.eq_of_toNat_eq
    show (w.toUInt64 >>> s).toNat = _
    rw [UInt64.toNat_shiftRight, hs, Nat.mod_eq_of_lt hj, BitVec.toNat_ushiftRight]
    rfl
  rw [← Int64.toBitVec_inj, Int64.toBitVec_and, e]
  show w.toBitVec >>> j &&& 1#64 = 0#64 ↔ _
  constructor
  · intro h
    have t := congrArg (fun x => x.getLsbD 0) h
    simpa using t
  · intro h
    apply BitVec.eq_of_getLsbD_eq
    intro i hi
    cases i with
    | zero => simp [h]
    | succ i => simp
theorem wb_tb (n : Nat) : (lN n).toBitVec = BitVec.ofNat 64 n := rfl
theorem wb_inj {a b : Int64} (h : a.toBitVec = b.toBitVec) : a = b := Int64.toBitVec_inj.mp h
theorem wb_c : ∀ k, k < 64 → ((nI k).toInt64 &&& 63) = lN k := by decide +kernel
theorem wb_cu : ∀ k, k < 64 → ((nI k).toInt64.toUInt64 &&& Int64.toUInt64 63) = UInt64.ofNat k := by decide +kernel
theorem wb_sm : ∀ k, k < 64 → (BitVec.ofNat 64 k).smod 64 = BitVec.ofNat 64 k := by decide +kernel
theorem wb_shl (n : Nat) {k : Nat} (hk : k < 64) : lN n <<< ((nI k).toInt64 &&& 63) = lN (n * 2 ^ k) := by
  rw [wb_c k hk]
  apply wb_inj
  rw [Int64.toBitVec_shiftLeft, wb_tb, wb_tb, wb_tb, wb_sm k hk]
  apply BitVec.eq_of_toNat_eq
  rw [BitVec.shiftLeft_eq', BitVec.toNat_shiftLeft, BitVec.toNat_ofNat, BitVec.toNat_ofNat, BitVec.toNat_ofNat, Nat.mod_eq_of_lt (show k < 2 ^ 64 by omega), Nat.shiftLeft_eq, Nat.mul_mod, Nat.mod_mod, ← Nat.mul_mod]
def lt (x : Int64) (i : Nat) : Bool := x.toBitVec.getLsbD i
theorem lt_or (x y : Int64) (i : Nat) : lt (x ||| y) i = (lt x i || lt y i) := by unfold lt; rw [Int64.toBitVec_or, BitVec.getLsbD_or]
theorem lt_z (i : Nat) : lt 0 i = false := BitVec.getLsbD_zero
theorem lt_one {k j : Nat} (hk : k < 64) (hj : j < 64) : lt ((1 : Int64) <<< ((nI k).toInt64 &&& 63)) j = decide (k = j) := by
  have e : (1 : Int64) <<< ((nI k).toInt64 &&& 63) = lN (1 * 2 ^ k) := wb_shl 1 hk
  unfold lt
  rw [e, wb_tb, BitVec.getLsbD_ofNat, Nat.one_mul, Nat.testBit_two_pow]
  simp [hj]
theorem lt_test (x : Int64) {k : Nat} (hk : k < 64) : lg_cmp (lushr x (nI k) &&& 1) 0 = 0 ↔ lt x k = false := by
  have e : lg_cmp (lushr x (nI k) &&& 1) 0 = 0 ↔ (lushr x (nI k) &&& 1) = 0 := by
    unfold lg_cmp
    by_cases c1 : (lushr x (nI k) &&& 1) > 0
    · rw [if_pos c1]
      constructor
      · intro z; exact absurd z (by decide)
      · intro z; rw [z] at c1; exact absurd c1 (by decide)
    · rw [if_neg c1]
      by_cases c2 : (lushr x (nI k) &&& 1) = 0
      · rw [if_pos c2]; exact ⟨fun _ => c2, fun _ => rfl⟩
      · rw [if_neg c2]
        constructor
        · intro z; exact absurd z (by decide)
        · intro z; exact absurd z c2
  rw [e]
  unfold lushr lt
  rw [wb_cu k hk]
  exact ts_bit hk (by show (BitVec.ofNat 64 k).toNat = k; rw [BitVec.toNat_ofNat, Nat.mod_eq_of_lt (by omega)])
/-- the memory of a block as lanes go over it -/
def shM (o m : Int32) (K : Nat → Nat) (Y : Nat → Int32) (S : Nat → Int32) : Nat → Nat → Int32
  | 0 => S
  | n + 1 => if bt m n = true then (fun k => if k = K n then lV o (shM o m K Y S n (K n)) (Y n) 0 else shM o m K Y S n k) else shM o m K Y S n
theorem nI63 {k : Nat} (hk : k < 64) : nI k &&& 63 = nI k := by rw [pk_andN (by omega) 6 (by decide), Nat.mod_eq_of_lt (show k < 2 ^ 6 from hk)]
theorem fr_get {g : Nat → Nat → Int32} {a lo hi : Nat} : fr g a lo hi (g a) = g := by
  funext b j
  unfold fr
  split
  · rename_i q
    rw [q.1]
  · rfl
def usH (h : Hp) (rg bi d : Nat) (o m : Int32) (K : Nat → Nat) (Y : Nat → Int32) (i : Nat) : Nat → Nat → Int32 := fx (fr (hA h) bi 0 64 (shM o m K Y (hA h bi) i)) rg d 16 i (fun j => bt m j && decide (¬ o = 53)) (fun j => shM o m K Y (hA h bi) j (K j))
theorem up2_fx {g : Nat → Nat → Int32} {a c k n b j : Nat} {Q : Nat → Bool} {f : Nat → Int32} {v : Int32} (h : ¬ b = a) : up2 (fx g a c k n Q f) b j v = fx (up2 g b j v) a c k n Q f := by
  funext e l
  by_cases h1 : e = b ∧ l = j
  · rw [up2_at, if_pos h1, fx_o (fun z => h (h1.1.symm.trans z)), up2_at, if_pos h1]
  · rw [up2_at, if_neg h1]
    unfold fx
    split
    · rfl
    · rw [up2_at, if_neg h1]
theorem up2_fr_in {g : Nat → Nat → Int32} {a n j : Nat} {f f2 : Nat → Int32} {v : Int32} (hj : j < n) (e : ∀ k, f2 k = if k = j then v else f k) : up2 (fr g a 0 n f) a j v = fr g a 0 n f2 := by
  funext b l
  unfold up2 fr
  by_cases h1 : b = a ∧ l = j
  · rw [if_pos h1, if_pos ⟨h1.1, by omega, by omega⟩, e, if_pos h1.2]
  · rw [if_neg h1]
    by_cases h2 : b = a ∧ 0 ≤ l ∧ l < n
    · rw [if_pos h2, if_pos h2, e, if_neg (fun z => h1 ⟨h2.1, z⟩)]
    · rw [if_neg h2, if_neg h2]
theorem c_Warp_useShared {F : Nat} {h : Hp} {w rg pl ro pr ti ln : Nat} (W : Wp h w rg pl ro pr ti ln) (hF : 40000 ≤ F) {wd : Nat} (hw : hR h 520 w = some wd) (hk : hK h wd = 10) {bl bi b d : Nat} {o : Int32} (hbl : hR h 512 w = some bl) (kb : hK h bl = 8) (rbi : hR h 449 bl = some bi) (kbi : hK h bi = 100) (nbi : hN h bi = 64) (dd : ¬ bi = rg) (dd2 : ¬ bi = ro) (hb : hI h 579 wd = nI b) (lb : b < 16) (hd : hI h 577 wd = nI d) (ld : d < 16) (ho : hI h 576 wd = o) (o4 : o = 52 ∨ o = 53 ∨ o = 58 ∨ o = 59) (m : Int32) (K : Nat → Nat) (hK2 : ∀ i, i < ln → bt m i = true → hA h ro i = nI (K i) ∧ K i < 64) : f_Warp_useShared F w m h = some (oA h (usH h rg bi d o m K (fun i => hA h rg (16 * i + b)) ln)) := by
  have W2 := W
  obtain ⟨⟨wk, wl, hl⟩, ⟨r1, k1, n1, m1⟩, ⟨r2, k2, n2, m2⟩, ⟨r3, k3, n3, m3⟩, ⟨r4, k4, n4⟩, ⟨r5, k5, n5⟩, d1, d2, d3, d4, d5, d6, d7, d8, d9, d10⟩ := W
  have st := iterF (fun n i => b_Warp_useShared_10 F n w m bi (nI i) (oA h (usH h rg bi d o m K (fun i => hA h rg (16 * i + b)) i))) ln (fun i n hi => by
    have c : ¬ nI ln ≤ nI i := nI_ge hi (by omega)
    have rr : ∀ r, r < 16 → usH h rg bi d o m K (fun i => hA h rg (16 * i + b)) i rg (16 * i + r) = hA h rg (16 * i + r) := fun r hr => by
      unfold usH
      rw [fx_c (fun j hj => by omega), fr_o (fun z => dd z.symm)]
    have rw1 : ∀ j, usH h rg bi d o m K (fun i => hA h rg (16 * i + b)) i ro j = hA h ro j := fun j => by
      unfold usH
      rw [fx_o (fun z => d2 z.symm), fr_o (fun z => dd2 z.symm)]
    have rb : ∀ k, k < 64 → usH h rg bi d o m K (fun i => hA h rg (16 * i + b)) i bi k = shM o m K (fun i => hA h rg (16 * i + b)) (hA h bi) i k := fun k hk => by
      unfold usH
      rw [fx_o dd, fr_i (by omega) hk]
    have W3 : Wp (oA h (usH h rg bi d o m K (fun i => hA h rg (16 * i + b)) i)) w rg pl ro pr ti ln := W2.same (qK_oA _ _) (qN_oA _ _) (fun f _ _ => by rw [qR_oA]) (by rw [qI_oA])
    rw [b_Warp_useShared_10]
    dsimp only
    rw [gd_t (by rw [qK_oA]; exact wk), qI_oA, wl, if_neg c, c_in m (show i < 32 by omega), cl_some, bI_ite]
    by_cases q : bt m i = true
    · obtain ⟨q1, q2⟩ := hK2 i hi q
      have sM : shM o m K (fun i => hA h rg (16 * i + b)) (hA h bi) (i + 1) = fun k => if k = K i then lV o (shM o m K (fun i => hA h rg (16 * i + b)) (hA h bi) i (K i)) (hA h rg (16 * i + b)) 0 else shM o m K (fun i => hA h rg (16 * i + b)) (hA h bi) i k := by
        rw [shM, if_pos q]
      rw [if_pos q, gd_t (by rw [qK_oA]; exact wk), rq_k (by rw [qR_oA]; exact r3) (by rw [qK_oA]; exact k3), qN_oA, ixn (by omega) (by omega), gd_t (by rw [qK_oA]; exact kbi), qA_oA, rw1, q1, nI63 q2, nbi, ixn q2 (by decide), rq_k (by rw [qR_oA]; exact hw) (by rw [qK_oA]; exact hk), qI_oA, hb, c_Warp_register W3 hF hi lb, cl_some, qA_oA, rr b lb, gd_t (by rw [qK_oA]; exact wk), rq_k (by rw [qR_oA]; exact hw) (by rw [qK_oA]; exact hk), qI_oA, ho, rb _ q2]
      generalize hv : shM o m K (fun i => hA h rg (16 * i + b)) (hA h bi) i (K i) = v at *
      have f95 : ∀ g, (∀ a, ¬ a = bi → g a = usH h rg bi d o m K (fun i => hA h rg (16 * i + b)) i a) → b_Warp_useShared_95 F (b_Warp_useShared_10 F n) w m bi (nI i) v (oA h g) = b_Warp_useShared_10 F n w m bi (nI (i + 1)) (oA h (if o = 53 then g else up2 g rg (16 * i + d) v)) := by
        intro g hg
        have W4 : Wp (oA h g) w rg pl ro pr ti ln := W2.same (qK_oA _ _) (qN_oA _ _) (fun f _ _ => by rw [qR_oA]) (by rw [qI_oA])
        rw [b_Warp_useShared_95, gd_t (by rw [qK_oA]; exact wk), rq_k (by rw [qR_oA]; exact hw) (by rw [qK_oA]; exact hk), qI_oA, ho, hd, c_Warp_put W4 hF hi ld, clv_some, nI_1, sA_oA]
        by_cases o53 : o = 53
        · rw [if_pos o53, if_pos o53]
        · rw [if_neg o53, if_neg o53]
      have f94 : ∀ z, b_Warp_useShared_94 F (b_Warp_useShared_10 F n) w m bi (nI i) v bi (nI (K i)) z (oA h (usH h rg bi d o m K (fun i => hA h rg (16 * i + b)) i)) = b_Warp_useShared_10 F n w m bi (nI (i + 1)) (oA h (if o = 53 then up2 (usH h rg bi d o m K (fun i => hA h rg (16 * i + b)) i) bi (K i) z else up2 (up2 (usH h rg bi d o m K (fun i => hA h rg (16 * i + b)) i) bi (K i) z) rg (16 * i + d) v)) := by
        intro z
        rw [b_Warp_useShared_94, gd_t (by rw [qK_oA]; exact kbi), qN_oA, nbi, ixn q2 (by decide), pw_e, sA_oA, f95]
        intro a ha
        funext j
        unfold up2
        rw [if_neg (fun z => ha z.1)]
      have fin : ∀ z, z = lV o v (hA h rg (16 * i + b)) 0 → (if o = 53 then up2 (usH h rg bi d o m K (fun i => hA h rg (16 * i + b)) i) bi (K i) z else up2 (up2 (usH h rg bi d o m K (fun i => hA h rg (16 * i + b)) i) bi (K i) z) rg (16 * i + d) v) = usH h rg bi d o m K (fun i => hA h rg (16 * i + b)) (i + 1) := by
        intro z hz
        have u1 : up2 (usH h rg bi d o m K (fun i => hA h rg (16 * i + b)) i) bi (K i) z = fx (fr (hA h) bi 0 64 (shM o m K (fun i => hA h rg (16 * i + b)) (hA h bi) (i + 1))) rg d 16 i (fun j => bt m j && decide (¬ o = 53)) (fun j => shM o m K (fun i => hA h rg (16 * i + b)) (hA h bi) j (K j)) := by
          unfold usH
          rw [up2_fx dd]
          congr 1
          exact up2_fr_in q2 (fun k => by rw [sM, hz])
        rw [u1]
        by_cases o53 : o = 53
        · rw [if_pos o53]
          exact fx_n (by simp [o53])
        · rw [if_neg o53]
          have u2 := fx_y (g := fr (hA h) bi 0 64 (shM o m K (fun i => hA h rg (16 * i + b)) (hA h bi) (i + 1))) (a := rg) (c := d) (k := 16) (n := i) (j := 16 * i + d) (Q := fun j => bt m j && decide (¬ o = 53)) (f := fun j => shM o m K (fun i => hA h rg (16 * i + b)) (hA h bi) j (K j)) (by decide) (by omega) (by simp [q, o53])
          rw [hv] at u2
          exact u2
      by_cases c52 : o = 52
      · rw [if_pos c52]
        have n53 : ¬ o = 53 := by rw [c52]; decide
        have lv : lV o v (hA h rg (16 * i + b)) 0 = v := by rw [c52]; unfold lV; simp
        rw [f95 _ (fun a _ => rfl), if_neg n53]
        have := fin v lv.symm
        rw [if_neg n53] at this
        have same : up2 (usH h rg bi d o m K (fun i => hA h rg (16 * i + b)) i) bi (K i) v = usH h rg bi d o m K (fun i => hA h rg (16 * i + b)) i := by
          funext a j
          unfold up2
          split
          · rename_i z
            rw [z.1, z.2, rb _ q2, hv]
          · rfl
        rw [same] at this
        rw [this]
      · rw [if_neg c52]
        by_cases c58 : o = 58
        · rw [if_pos c58, f94, fin _ (by rw [c58]; unfold lV; simp)]
        · rw [if_neg c58, f94, fin _ ?_]
          rcases o4 with o4 | o4 | o4 | o4
          · exact absurd o4 c52
          · rw [o4]; unfold lV; simp
          · exact absurd o4 c58
          · rw [o4]; unfold lV; simp
    · have q0 : bt m i = false := by simpa using q
      rw [if_neg q, nI_1]
      have e1 : usH h rg bi d o m K (fun i => hA h rg (16 * i + b)) (i + 1) = usH h rg bi d o m K (fun i => hA h rg (16 * i + b)) i := by
        unfold usH
        rw [show shM o m K (fun i => hA h rg (16 * i + b)) (hA h bi) (i + 1) = shM o m K (fun i => hA h rg (16 * i + b)) (hA h bi) i by rw [shM, if_neg q]]
        exact (fx_n (by simp [q0])).symm
      rw [e1]) (F := F) (by omega)
  have cL : nI ln ≤ nI ln := nI_le (Nat.le_refl _) (by omega)
  have e0 : usH h rg bi d o m K (fun i => hA h rg (16 * i + b)) 0 = hA h := by
    unfold usH
    rw [fx_0]
    exact fr_get
  rw [nI_0, e0, oA_self] at st
  rw [f_Warp_useShared, gd_t wk, rq_k hbl kb, rq_k rbi kbi, st, b_Warp_useShared_10]
  dsimp only
  rw [gd_t (by rw [qK_oA]; exact wk), qI_oA, wl, if_pos cL]
