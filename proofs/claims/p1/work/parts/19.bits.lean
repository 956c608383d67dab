/-! bits and masks (the first rows begun as a paste of kit/laws/BITS) -/
def bt (x : Int32) (i : Nat) : Bool := x.toBitVec.getLsbD i
theorem b_ext {x y : Int32} (h : ∀ i, i < 32 → bt x i = bt y i) : x = y := Int32.toBitVec_inj.mp (BitVec.eq_of_getLsbD_eq (fun i hi => h i hi))
theorem b_or (x y : Int32) (i : Nat) : bt (x ||| y) i = (bt x i || bt y i) := by unfold bt; rw [Int32.toBitVec_or, BitVec.getLsbD_or]
theorem b_and (x y : Int32) (i : Nat) : bt (x &&& y) i = (bt x i && bt y i) := by unfold bt; rw [Int32.toBitVec_and, BitVec.getLsbD_and]
theorem b_xor (x y : Int32) (i : Nat) : bt (x ^^^ y) i = (bt x i ^^ bt y i) := by unfold bt; rw [Int32.toBitVec_xor, BitVec.getLsbD_xor]
theorem b_big {x : Int32} {i : Nat} (h : 32 ≤ i) : bt x i = false := BitVec.getLsbD_of_ge _ _ h
theorem b_m1 : ∀ i, i < 32 → bt (-1) i = true := by decide +kernel
theorem b_0 (i : Nat) : bt 0 i = false := BitVec.getLsbD_zero
theorem s_l : ∀ n, n < 32 → ((nI n &&& 31).toBitVec.smod 32).toNat = n := by decide +kernel
theorem s_u : ∀ n, n < 32 → (((nI n).toUInt32 &&& Int32.toUInt32 31).toBitVec % 32).toNat = n := by decide +kernel
theorem b_shl (n : Nat) (hn : n < 32) (x : Int32) {i : Nat} (hi : i < 32) : bt (x <<< (nI n &&& 31)) i = (decide (n ≤ i) && bt x (i - n)) := by
  unfold bt
  rw [Int32.toBitVec_shiftLeft]
  show (x.toBitVec <<< ((nI n &&& 31).toBitVec.smod 32).toNat).getLsbD i = _
  rw [s_l n hn, BitVec.getLsbD_shiftLeft]
  rcases Nat.lt_or_ge i n with h | h
  · simp [h, Nat.not_le.mpr h]
  · simp [hi, h, Nat.not_lt.mpr h]
theorem b_ushr (n : Nat) (hn : n < 32) (x : Int32) (i : Nat) : bt ((x.toUInt32 >>> ((nI n).toUInt32 &&& Int32.toUInt32 31)).toInt32) i = bt x (n + i) := by
  show (x.toUInt32 >>> ((nI n).toUInt32 &&& Int32.toUInt32 31)).toBitVec.getLsbD i = x.toUInt32.toBitVec.getLsbD (n + i)
  rw [UInt32.toBitVec_shiftRight]
  show (x.toUInt32.toBitVec >>> (((nI n).toUInt32 &&& Int32.toUInt32 31).toBitVec % 32).toNat).getLsbD i = _
  rw [s_u n hn, BitVec.getLsbD_ushiftRight]
theorem nx_and (a b : Nat) : nI a &&& nI b = nI (a &&& b) := by
  apply Int32.toBitVec_inj.1
  show BitVec.ofNat 32 a &&& BitVec.ofNat 32 b = BitVec.ofNat 32 (a &&& b)
  apply BitVec.eq_of_getLsbD_eq
  intro i hi
  simp [hi]
theorem wb_of32 (x : Int32) : ∃ n, n < 2 ^ 32 ∧ x = nI n := ⟨x.toBitVec.toNat, x.toBitVec.isLt, Int32.toBitVec_inj.mp (by show _ = BitVec.ofNat 32 _; simp)⟩
theorem b_1 (i : Nat) : bt 1 i = decide (i = 0) := by
  unfold bt
  rcases i with _ | i
  · decide
  · simp only [show (1 : Int32).toBitVec = 1#32 from rfl]
    rw [BitVec.getLsbD_one]
    simp
theorem in_iff (m : Int32) {i : Nat} (hi : i < 32) : (¬ (ushr m (nI i) &&& 1) = 0) ↔ bt m i = true := by
  have key : ∀ j, bt (ushr m (nI i) &&& 1) j = (bt m i && decide (j = 0)) := by
    intro j
    rw [b_and, b_1, ushr, b_ushr i hi]
    by_cases hj : j = 0
    · subst hj; simp
    · simp [hj]
  constructor
  · intro h
    cases hb : bt m i with
    | true => rfl
    | false => exact absurd (b_ext fun j _ => by rw [key, hb, b_0]; rfl) h
  · intro h q
    have := key 0
    rw [q, b_0, h] at this
    simp at this
/-- a mask out of a list of lanes -/
def mkM (P : Nat → Bool) : Nat → Int32
  | 0 => 0
  | n + 1 => if P n then mkM P n ||| ((1 : Int32) <<< (nI n &&& 31)) else mkM P n
theorem bt_mkM (P : Nat → Bool) : ∀ n, n ≤ 32 → ∀ j, j < 32 → bt (mkM P n) j = (decide (j < n) && P j) := by
  intro n
  induction n with
  | zero => intro _ j _; simp [mkM, b_0]
  | succ n ih =>
    intro hn j hj
    have h1 := ih (by omega) j hj
    have h2 : bt ((1 : Int32) <<< (nI n &&& 31)) j = decide (j = n) := by
      rw [b_shl n (by omega) 1 hj, b_1]
      by_cases hjn : j = n
      · subst hjn; simp
      · simp [hjn]; omega
    unfold mkM
    by_cases hp : P n = true
    · rw [if_pos hp, b_or, h1, h2]
      by_cases hjn : j = n
      · subst hjn; simp [hp]
      · by_cases hl : j < n
        · simp [hl, hjn, show j < n + 1 by omega]
        · simp [hl, hjn, show ¬ j < n + 1 by omega]
    · rw [if_neg hp, h1]
      by_cases hjn : j = n
      · subst hjn; simp [hp]
      · by_cases hl : j < n
        · simp [hl, show j < n + 1 by omega]
        · simp [hl, show ¬ j < n + 1 by omega]
/-- how many -/
def cn (P : Nat → Bool) : Nat → Nat
  | 0 => 0
  | n + 1 => cn P n + if P n then 1 else 0
theorem cn_le (P : Nat → Bool) : ∀ n, cn P n ≤ n := by
  intro n
  induction n with
  | zero => exact Nat.le_refl _
  | succ n ih => unfold cn; split <;> omega
theorem cn_congr {P Q : Nat → Bool} : ∀ n, (∀ i, i < n → P i = Q i) → cn P n = cn Q n := by
  intro n
  induction n with
  | zero => intro _; rfl
  | succ n ih => intro h; unfold cn; rw [ih (fun i hi => h i (by omega)), h n (by omega)]
theorem cn_add (P : Nat → Bool) (a : Nat) : ∀ b, cn P (a + b) = cn P a + cn (fun i => P (a + i)) b := by
  intro b
  induction b with
  | zero => rfl
  | succ b ih => rw [show cn P (a + (b + 1)) = cn P (a + b) + (if P (a + b) = true then 1 else 0) from rfl, ih, show cn (fun i => P (a + i)) (b + 1) = cn (fun i => P (a + i)) b + (if P (a + b) = true then 1 else 0) from rfl, Nat.add_assoc]
/-! the JDK's way to count bits -/
theorem and_byte {A m : Nat} (B M : Nat) (hA : A < 256) (hm : m < 256) : (256 * B + A) &&& (256 * M + m) = 256 * (B &&& M) + (A &&& m) := by
  have h2 : A &&& m < 2 ^ 8 := Nat.and_lt_two_pow _ hm
  refine Nat.eq_of_testBit_eq fun j => ?_
  rw [Nat.testBit_and, show 256 = 2 ^ 8 from rfl, Nat.testBit_two_pow_mul_add _ (by simpa using hA), Nat.testBit_two_pow_mul_add _ (by simpa using hm), Nat.testBit_two_pow_mul_add _ h2]
  split
  · rw [Nat.testBit_and]
  · rw [Nat.testBit_and]
def by1 (b : Nat) : Nat := b - ((b / 2) &&& 85)
def by2 (b : Nat) : Nat := (b &&& 51) + ((b / 4) &&& 51)
def by3 (b : Nat) : Nat := (b + b / 16) &&& 15
theorem by1_d : ∀ b, b < 256 → ∀ e, e < 2 → ((b / 2 + 128 * e) &&& 85) = ((b / 2) &&& 85) ∧ ((b / 2) &&& 85) ≤ b ∧ by1 b < 256 := by decide +kernel
theorem by2_d : ∀ b, b < 256 → ∀ e, e < 4 → ((b / 4 + 64 * e) &&& 51) = ((b / 4) &&& 51) ∧ by2 b < 103 := by decide +kernel
theorem by3_d : ∀ b, b < 69 → ∀ e, e < 5 → ((b + b / 16 + 16 * e) &&& 15) = by3 b ∧ b + b / 16 + 16 * e < 256 := by decide +kernel
theorem by_cn : ∀ b, b < 256 → by3 (by2 (by1 b)) = cn (fun i => b.testBit i) 8 ∧ by3 (by2 (by1 b)) ≤ 8 ∧ by2 (by1 b) < 69 ∧ by2 (by1 b) % 16 < 5 := by decide +kernel
def n1 (M X : Nat) : Nat := X - ((X / 2) &&& M)
def n2 (M Y : Nat) : Nat := (Y &&& M) + ((Y / 4) &&& M)
def n3 (M Z : Nat) : Nat := (Z + Z / 16) &&& M
theorem n1_s (M B A : Nat) (hA : A < 256) : n1 (256 * M + 85) (256 * B + A) = 256 * n1 M B + by1 A := by
  unfold n1 by1
  obtain ⟨e1, e2, -⟩ := by1_d A hA (B % 2) (by omega)
  have hb : ((B / 2) &&& M) ≤ B / 2 := Nat.and_le_left
  rw [show (256 * B + A) / 2 = 256 * (B / 2) + (A / 2 + 128 * (B % 2)) by omega, and_byte _ _ (by omega) (by decide), e1]
  omega
theorem n2_s (M B A : Nat) (hA : A < 256) : n2 (256 * M + 51) (256 * B + A) = 256 * n2 M B + by2 A := by
  unfold n2 by2
  obtain ⟨e1, -⟩ := by2_d A hA (B % 4) (by omega)
  rw [show (256 * B + A) / 4 = 256 * (B / 4) + (A / 4 + 64 * (B % 4)) by omega, and_byte B M hA (by decide), and_byte (B / 4) M (by omega) (by decide), e1]
  omega
theorem n3_s (M B A : Nat) (hA : A < 69) (hB : B % 16 < 5) : n3 (256 * M + 15) (256 * B + A) = 256 * n3 M B + by3 A := by
  unfold n3
  obtain ⟨e1, e2⟩ := by3_d A hA (B % 16) hB
  rw [show 256 * B + A + (256 * B + A) / 16 = 256 * (B + B / 16) + (A + A / 16 + 16 * (B % 16)) by omega, and_byte _ _ e2 (by decide), e1]
theorem n_0 (M : Nat) : n1 M 0 = 0 ∧ n2 M 0 = 0 ∧ n3 M 0 = 0 := by simp [n1, n2, n3]
theorem tb_byte (B A i : Nat) (hA : A < 256) : (256 * B + A).testBit i = if i < 8 then A.testBit i else B.testBit (i - 8) := by
  rw [show 256 = 2 ^ 8 from rfl, Nat.testBit_two_pow_mul_add _ (by simpa using hA)]
theorem bc_nat (b0 b1 b2 b3 : Nat) (h0 : b0 < 256) (h1 : b1 < 256) (h2 : b2 < 256) (h3 : b3 < 256) :
    n3 252645135 (n2 858993459 (n1 1431655765 (256 * (256 * (256 * b3 + b2) + b1) + b0))) = 256 * (256 * (256 * by3 (by2 (by1 b3)) + by3 (by2 (by1 b2))) + by3 (by2 (by1 b1))) + by3 (by2 (by1 b0)) := by
  have z := n_0
  obtain ⟨-, -, a0, c0⟩ := by_cn b0 h0
  obtain ⟨-, -, a1, c1⟩ := by_cn b1 h1
  obtain ⟨-, -, a2, c2⟩ := by_cn b2 h2
  obtain ⟨-, -, a3, c3⟩ := by_cn b3 h3
  have l0 := (by1_d b0 h0 0 (by omega)).2.2
  have l1 := (by1_d b1 h1 0 (by omega)).2.2
  have l2 := (by1_d b2 h2 0 (by omega)).2.2
  have l3 := (by1_d b3 h3 0 (by omega)).2.2
  rw [show 1431655765 = 256 * (256 * (256 * (256 * 0 + 85) + 85) + 85) + 85 from rfl, show 858993459 = 256 * (256 * (256 * (256 * 0 + 51) + 51) + 51) + 51 from rfl, show 252645135 = 256 * (256 * (256 * (256 * 0 + 15) + 15) + 15) + 15 from rfl]
  rw [n1_s _ _ _ h0, n1_s _ _ _ h1, n1_s _ _ _ h2, show b3 = 256 * 0 + b3 by omega, n1_s _ _ _ h3, (z 0).1]
  rw [show 256 * 0 + by1 b3 = 256 * 0 + by1 b3 from rfl, n2_s _ _ _ l0, n2_s _ _ _ l1, n2_s _ _ _ l2, n2_s _ _ _ l3, (z 0).2.1]
  rw [n3_s _ _ _ a0 (by omega), n3_s _ _ _ a1 (by omega), n3_s _ _ _ a2 (by omega), n3_s _ _ _ a3 (by omega), (z 0).2.2]
  simp
theorem cn_bytes (b0 b1 b2 b3 : Nat) (h0 : b0 < 256) (h1 : b1 < 256) (h2 : b2 < 256) (h3 : b3 < 256) :
    cn (fun i => (256 * (256 * (256 * b3 + b2) + b1) + b0).testBit i) 32 = by3 (by2 (by1 b0)) + (by3 (by2 (by1 b1)) + (by3 (by2 (by1 b2)) + by3 (by2 (by1 b3)))) := by
  rw [(by_cn b0 h0).1, (by_cn b1 h1).1, (by_cn b2 h2).1, (by_cn b3 h3).1, show 32 = 8 + 24 from rfl, cn_add, show 24 = 8 + 16 from rfl, cn_add, show 16 = 8 + 8 from rfl, cn_add]
  have e0 : cn (fun i => (256 * (256 * (256 * b3 + b2) + b1) + b0).testBit i) 8 = cn (fun i => b0.testBit i) 8 := cn_congr 8 fun i hi => by rw [tb_byte _ _ _ h0, if_pos hi]
  have e1 : cn (fun i => (256 * (256 * (256 * b3 + b2) + b1) + b0).testBit (8 + i)) 8 = cn (fun i => b1.testBit i) 8 := cn_congr 8 fun i hi => by
    rw [tb_byte _ _ _ h0, if_neg (by omega), show 8 + i - 8 = i by omega, tb_byte _ _ _ h1, if_pos hi]
  have e2 : cn (fun i => (256 * (256 * (256 * b3 + b2) + b1) + b0).testBit (8 + (8 + i))) 8 = cn (fun i => b2.testBit i) 8 := cn_congr 8 fun i hi => by
    rw [tb_byte _ _ _ h0, if_neg (by omega), tb_byte _ _ _ h1, if_neg (by omega), show 8 + (8 + i) - 8 - 8 = i by omega, tb_byte _ _ _ h2, if_pos hi]
  have e3 : cn (fun i => (256 * (256 * (256 * b3 + b2) + b1) + b0).testBit (8 + (8 + (8 + i)))) 8 = cn (fun i => b3.testBit i) 8 := cn_congr 8 fun i hi => by
    rw [tb_byte _ _ _ h0, if_neg (by omega), tb_byte _ _ _ h1, if_neg (by omega), tb_byte _ _ _ h2, if_neg (by omega), show 8 + (8 + (8 + i)) - 8 - 8 - 8 = i by omega]
  rw [e0, e1, e2, e3]
theorem bt_nI (X : Nat) {i : Nat} (hi : i < 32) : bt (nI X) i = X.testBit i := by
  unfold bt
  show (BitVec.ofNat 32 X).getLsbD i = _
  rw [BitVec.getLsbD_ofNat]
  simp [hi]
theorem c_Integer_bitCount {F : Nat} {h : Hp} (x : Int32) : f_Integer_bitCount F x h = some (nI (cn (fun i => bt x i) 32), h) := by
  obtain ⟨X, hX, rfl⟩ := wb_of32 x
  have hX2 : X < 4294967296 := hX
  have bx : X = 256 * (256 * (256 * (X / 16777216) + X / 65536 % 256) + X / 256 % 256) + X % 256 := by omega
  have d0 : X % 256 < 256 := Nat.mod_lt _ (by decide)
  have d1 : X / 256 % 256 < 256 := Nat.mod_lt _ (by decide)
  have d2 : X / 65536 % 256 < 256 := Nat.mod_lt _ (by decide)
  have d3 : X / 16777216 < 256 := by omega
  have hcn : cn (fun i => bt (nI X) i) 32 = cn (fun i => X.testBit i) 32 := cn_congr 32 fun i hi => bt_nI X hi
  have k1 := bc_nat _ _ _ _ d0 d1 d2 d3
  have k2 := cn_bytes _ _ _ _ d0 d1 d2 d3
  rw [← bx] at k1 k2
  have p0 := (by_cn _ d0).2.1
  have p1 := (by_cn _ d1).2.1
  have p2 := (by_cn _ d2).2.1
  have p3 := (by_cn _ d3).2.1
  rw [hcn, k2]
  generalize by3 (by2 (by1 (X % 256))) = q0 at *
  generalize by3 (by2 (by1 (X / 256 % 256))) = q1 at *
  generalize by3 (by2 (by1 (X / 65536 % 256))) = q2 at *
  generalize by3 (by2 (by1 (X / 16777216))) = q3 at *
  have l1 : n1 1431655765 X ≤ X := Nat.sub_le _ _
  have e1 : nI X - (ushr (nI X) 1 &&& 1431655765) = nI (n1 1431655765 X) := by
    rw [show ushr (nI X) 1 = nI (X / 2) from pk_ushrN hX 1 1 (by decide), show (1431655765 : Int32) = nI 1431655765 from rfl, nx_and, pk_sub (Nat.le_trans Nat.and_le_left (Nat.div_le_self _ _))]
    rfl
  generalize hY : n1 1431655765 X = Y at *
  have hY2 : Y < 2 ^ 32 := Nat.lt_of_le_of_lt l1 hX
  have l2 : n2 858993459 Y ≤ 858993459 + 858993459 := Nat.add_le_add Nat.and_le_right Nat.and_le_right
  have e2 : (nI Y &&& 858993459) + (ushr (nI Y) 2 &&& 858993459) = nI (n2 858993459 Y) := by
    rw [show ushr (nI Y) 2 = nI (Y / 4) from pk_ushrN hY2 2 2 (by decide), show (858993459 : Int32) = nI 858993459 from rfl, nx_and, nx_and, nI_add]
    rfl
  generalize hZ : n2 858993459 Y = Z at *
  have hZ2 : Z < 2 ^ 32 := Nat.lt_of_le_of_lt l2 (by decide)
  have e3 : (nI Z + ushr (nI Z) 4) &&& 252645135 = nI (n3 252645135 Z) := by
    rw [show ushr (nI Z) 4 = nI (Z / 16) from pk_ushrN hZ2 4 4 (by decide), show (252645135 : Int32) = nI 252645135 from rfl, nI_add, nx_and]
    rfl
  generalize hW : n3 252645135 Z = W at *
  have hW2 : W < 2 ^ 32 := by rw [k1]; omega
  have e4 : nI W + ushr (nI W) 8 = nI (W + W / 256) := by
    rw [show ushr (nI W) 8 = nI (W / 256) from pk_ushrN hW2 8 8 (by decide), nI_add]
  have hV : W + W / 256 < 2 ^ 32 := by rw [k1]; omega
  have e5 : nI (W + W / 256) + ushr (nI (W + W / 256)) 16 = nI (W + W / 256 + (W + W / 256) / 65536) := by
    rw [show ushr (nI (W + W / 256)) 16 = nI ((W + W / 256) / 65536) from pk_ushrN hV 16 16 (by decide), nI_add]
  unfold f_Integer_bitCount
  rw [e1, e2, e3, e4, e5, show (63 : Int32) = nI 63 from rfl, nx_and, show 63 = 2 ^ 6 - 1 from rfl, Nat.and_two_pow_sub_one_eq_mod]
  congr 3
  have f1 : W / 256 = 256 * (256 * q3 + q2) + q1 := by rw [k1]; omega
  have f2 : (W + W / 256) / 65536 = 256 * q3 + q2 + q3 := by rw [f1, k1]; omega
  rw [f2, f1, k1]
  omega
