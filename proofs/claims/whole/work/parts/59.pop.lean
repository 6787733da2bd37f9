/-! ===== the JDK's count of bits, below 65536 ===== -/
theorem sxu : ∀ n, n < 32 → (((nI n).toUInt32 &&& Int32.toUInt32 31).toBitVec % 32).toNat = n := by decide +kernel
theorem btx_ushr (n : Nat) (hn : n < 32) (x : Int32) (i : Nat) : btx ((x.toUInt32 >>> ((nI n).toUInt32 &&& Int32.toUInt32 31)).toInt32) i = btx x (n + i) := by
  show (x.toUInt32 >>> ((nI n).toUInt32 &&& Int32.toUInt32 31)).toBitVec.getLsbD i = x.toUInt32.toBitVec.getLsbD (n + i)
  rw [UInt32.toBitVec_shiftRight]
  show (x.toUInt32.toBitVec >>> (((nI n).toUInt32 &&& Int32.toUInt32 31).toBitVec % 32).toNat).getLsbD i = _
  rw [sxu n hn, BitVec.getLsbD_ushiftRight]
theorem aushr_nat {a k : Nat} (ha : a < 2147483648) (hk : k < 32) : aushr a k = ((a >>> k : Nat) : Int) := by
  have h : a >>> k < 2147483648 := Nat.lt_of_le_of_lt (Nat.shiftRight_le a k) ha
  unfold aushr
  rw [of_nat, of_nat, ← nIt h]
  refine congrArg _ (btx_ext fun i hi => ?_)
  rw [btx_ushr k hk, btx_nI _ hi, Nat.testBit_shiftRight]
  by_cases h32 : k + i < 32
  · rw [btx_nI _ h32]
  · have e1 : btx (nI a) (k + i) = false := BitVec.getLsbD_of_ge _ _ (by omega)
    rw [e1]
    symm
    apply Nat.testBit_lt_two_pow
    exact Nat.lt_of_lt_of_le ha (Nat.pow_le_pow_right (n := 2) (i := 31) (by decide) (by omega))
/-- the same in whole numbers, step by step -/
def pc1 (n : Nat) : Nat := n - ((n >>> 1) &&& 1431655765)
def pc2 (n : Nat) : Nat := (n &&& 858993459) + ((n >>> 2) &&& 858993459)
def pc3 (n : Nat) : Nat := (n + n >>> 4) &&& 252645135
def pc4 (n : Nat) : Nat := n + n >>> 8
def pc5 (n : Nat) : Nat := n + n >>> 16
theorem bit256 {a b : Nat} (hb : b < 256) (j : Nat) : (256 * a + b).testBit j = if j < 8 then b.testBit j else a.testBit (j - 8) := Nat.testBit_two_pow_mul_add (i := 8) a hb j
theorem bit_hi {a j : Nat} (ha : a < 256) (hj : 8 ≤ j) : a.testBit j = false := Nat.testBit_lt_two_pow (Nat.lt_of_lt_of_le ha (Nat.pow_le_pow_right (n := 2) (i := 8) (by decide) hj))
theorem mk5 : ∀ i, i < 16 → Nat.testBit 1431655765 i = Nat.testBit 85 (i % 8) := by decide +kernel
theorem mk3 : ∀ i, i < 16 → Nat.testBit 858993459 i = Nat.testBit 51 (i % 8) := by decide +kernel
theorem mk7 : Nat.testBit 85 7 = false := by decide
theorem mk6 : Nat.testBit 51 7 = false ∧ Nat.testBit 51 6 = false := by decide
theorem sh5 {a b : Nat} (ha : a < 256) (hb : b < 256) : ((256 * a + b) >>> 1) &&& 1431655765 = 256 * ((a >>> 1) &&& 85) + ((b >>> 1) &&& 85) := by
  have hy : (b >>> 1) &&& 85 < 256 := Nat.lt_of_le_of_lt Nat.and_le_right (by decide)
  apply Nat.eq_of_testBit_eq
  intro i
  rw [Nat.testBit_and, Nat.testBit_shiftRight, bit256 hb, bit256 hy]
  by_cases h16 : i < 16
  · rw [mk5 i h16]
    by_cases h8 : i < 8
    · rw [if_pos h8, Nat.testBit_and, Nat.testBit_shiftRight, Nat.mod_eq_of_lt h8]
      by_cases h7 : i = 7
      · subst h7; rw [mk7, Bool.and_false, Bool.and_false]
      · rw [if_pos (by omega)]
    · rw [if_neg h8, if_neg (by omega), Nat.testBit_and, Nat.testBit_shiftRight, show i % 8 = i - 8 by omega, show 1 + i - 8 = 1 + (i - 8) by omega]
  · rw [if_neg (by omega), if_neg (by omega), Nat.testBit_and, Nat.testBit_shiftRight, bit_hi ha (by omega), bit_hi ha (by omega)]; rfl
theorem sh3 {a b : Nat} (ha : a < 256) (hb : b < 256) : ((256 * a + b) >>> 2) &&& 858993459 = 256 * ((a >>> 2) &&& 51) + ((b >>> 2) &&& 51) := by
  have hy : (b >>> 2) &&& 51 < 256 := Nat.lt_of_le_of_lt Nat.and_le_right (by decide)
  apply Nat.eq_of_testBit_eq
  intro i
  rw [Nat.testBit_and, Nat.testBit_shiftRight, bit256 hb, bit256 hy]
  by_cases h16 : i < 16
  · rw [mk3 i h16]
    by_cases h8 : i < 8
    · rw [if_pos h8, Nat.testBit_and, Nat.testBit_shiftRight, Nat.mod_eq_of_lt h8]
      by_cases h7 : i = 7
      · subst h7; rw [mk6.1, Bool.and_false, Bool.and_false]
      · by_cases h6 : i = 6
        · subst h6; rw [mk6.2, Bool.and_false, Bool.and_false]
        · rw [if_pos (by omega)]
    · rw [if_neg h8, if_neg (by omega), Nat.testBit_and, Nat.testBit_shiftRight, show i % 8 = i - 8 by omega, show 2 + i - 8 = 2 + (i - 8) by omega]
  · rw [if_neg (by omega), if_neg (by omega), Nat.testBit_and, Nat.testBit_shiftRight, bit_hi ha (by omega), bit_hi ha (by omega)]; rfl
theorem an3 {a b : Nat} (ha : a < 256) (hb : b < 256) : (256 * a + b) &&& 858993459 = 256 * (a &&& 51) + (b &&& 51) := by
  have hy : b &&& 51 < 256 := Nat.lt_of_le_of_lt Nat.and_le_right (by decide)
  apply Nat.eq_of_testBit_eq
  intro i
  rw [Nat.testBit_and, bit256 hb, bit256 hy]
  by_cases h16 : i < 16
  · rw [mk3 i h16]
    by_cases h8 : i < 8
    · rw [if_pos h8, if_pos h8, Nat.testBit_and, Nat.mod_eq_of_lt h8]
    · rw [if_neg h8, if_neg h8, Nat.testBit_and, show i % 8 = i - 8 by omega]
  · rw [if_neg (by omega), if_neg (by omega), Nat.testBit_and, bit_hi ha (by omega), Bool.false_and, Bool.false_and]
theorem byt : ∀ a, a < 256 → ((a >>> 1) &&& 85) ≤ a ∧ a - ((a >>> 1) &&& 85) < 256 ∧ ∃ c0, c0 < 5 ∧ ∃ c1, c1 < 5 ∧ ((a - ((a >>> 1) &&& 85)) &&& 51) + (((a - ((a >>> 1) &&& 85)) >>> 2) &&& 51) = c0 + 16 * c1 ∧ c0 + c1 = cntp a.testBit 8 := by decide +kernel
theorem dig : ∀ a0, a0 < 5 → ∀ a1, a1 < 5 → ∀ b0, b0 < 5 → ∀ b1, b1 < 5 → pc3 (256 * (a0 + 16 * a1) + (b0 + 16 * b1)) < 65536 ∧ pc5 (pc4 (pc3 (256 * (a0 + 16 * a1) + (b0 + 16 * b1)))) &&& 63 = a0 + a1 + (b0 + b1) := by decide +kernel
theorem cntp_add (p : Nat → Bool) (m : Nat) : ∀ n, cntp p (m + n) = cntp p m + cntp (fun i => p (m + i)) n
  | 0 => rfl
  | n + 1 => by
    have ih := cntp_add p m n
    show cntp p (m + n) + _ = cntp p m + (cntp (fun i => p (m + i)) n + _)
    rw [ih, Nat.add_assoc]; rfl
theorem pop_nat {n : Nat} (h : n < 65536) : ((n >>> 1) &&& 1431655765) ≤ n ∧ pc1 n < 65536 ∧ pc2 (pc1 n) < 65536 ∧ pc3 (pc2 (pc1 n)) < 65536 ∧ pc5 (pc4 (pc3 (pc2 (pc1 n)))) &&& 63 = cntp n.testBit 16 := by
  obtain ⟨a, b, rfl, ha, hb⟩ : ∃ a b, n = 256 * a + b ∧ a < 256 ∧ b < 256 := ⟨n / 256, n % 256, by omega, by omega, by omega⟩
  obtain ⟨p1, p2, a0, p3, a1, p4, p5, p6⟩ := byt a ha
  obtain ⟨q1, q2, b0, q3, b1, q4, q5, q6⟩ := byt b hb
  have e1 : pc1 (256 * a + b) = 256 * (a - ((a >>> 1) &&& 85)) + (b - ((b >>> 1) &&& 85)) := by
    unfold pc1
    rw [sh5 ha hb]; omega
  have e2 : pc2 (pc1 (256 * a + b)) = 256 * (a0 + 16 * a1) + (b0 + 16 * b1) := by
    rw [e1]
    unfold pc2
    rw [an3 p2 q2, sh3 p2 q2, ← p5, ← q5]; omega
  obtain ⟨r1, r2⟩ := dig a0 p3 a1 p4 b0 q3 b1 q4
  have e3 : cntp (256 * a + b).testBit 16 = cntp b.testBit 8 + cntp a.testBit 8 := by
    have h1 := cntp_add (256 * a + b).testBit 8 8
    rw [show 8 + 8 = 16 from rfl] at h1
    rw [h1, cntp_cong (p := (256 * a + b).testBit) (q := b.testBit) (fun k hk => by rw [bit256 hb, if_pos hk]), cntp_cong (p := fun i => (256 * a + b).testBit (8 + i)) (q := a.testBit) (fun k hk => by rw [bit256 hb, if_neg (by omega), show 8 + k - 8 = k by omega])]
  refine ⟨?_, ?_, ?_, ?_, ?_⟩
  · rw [sh5 ha hb]; omega
  · rw [e1]; omega
  · rw [e2]; omega
  · rw [e2]; exact r1
  · rw [e2, r2, e3]; omega
theorem h_bitCount {T n : Nat} {M : aM} (h : n < 65536) : f_J6_bitCount_0f7a4 T (n : Int) M = some ((cntp n.testBit 16 : Nat) : Int) := by
  obtain ⟨h0, h1, h2, h3, h4⟩ := pop_nat h
  have m5 : (1431655765 : Int) = ((1431655765 : Nat) : Int) := rfl
  have m3 : (858993459 : Int) = ((858993459 : Nat) : Int) := rfl
  have mf : (252645135 : Int) = ((252645135 : Nat) : Int) := rfl
  have m63 : (63 : Int) = ((63 : Nat) : Int) := rfl
  have s1 : (1 : Int) = ((1 : Nat) : Int) := rfl
  have s2 : (2 : Int) = ((2 : Nat) : Int) := rfl
  have s4 : (4 : Int) = ((4 : Nat) : Int) := rfl
  have s8 : (8 : Int) = ((8 : Nat) : Int) := rfl
  have s16 : (16 : Int) = ((16 : Nat) : Int) := rfl
  have le : ∀ a k : Nat, a >>> k ≤ a := Nat.shiftRight_le
  have x1 : (n : Int) - aand (aushr (n : Int) 1) 1431655765 = ((pc1 n : Nat) : Int) := by
    have := le n 1
    rw [s1, m5, aushr_nat (by omega) (by decide), aand_nat (by omega) (by decide)]
    unfold pc1; omega
  unfold f_J6_bitCount_0f7a4
  rw [x1]
  generalize pc1 n = a1 at *
  have x2 : aand (a1 : Int) 858993459 + aand (aushr (a1 : Int) 2) 858993459 = ((pc2 a1 : Nat) : Int) := by
    have := le a1 2
    rw [s2, m3, aushr_nat (by omega) (by decide), aand_nat (by omega) (by decide), aand_nat (by omega) (by decide)]
    unfold pc2; omega
  rw [x2]
  generalize pc2 a1 = a2 at *
  have hh := le a2 4
  have x3 : (a2 : Int) + aushr (a2 : Int) 4 = ((a2 + a2 >>> 4 : Nat) : Int) := by
    rw [s4, aushr_nat (by omega) (by decide)]; omega
  rw [x3]
  have x4 : aand ((a2 + a2 >>> 4 : Nat) : Int) 252645135 = ((pc3 a2 : Nat) : Int) := by
    rw [mf, aand_nat (by omega) (by decide)]; rfl
  rw [x4]
  generalize pc3 a2 = a3 at *
  have hh3 := le a3 8
  have x5 : (a3 : Int) + aushr (a3 : Int) 8 = ((pc4 a3 : Nat) : Int) := by
    rw [s8, aushr_nat (by omega) (by decide)]; unfold pc4; omega
  rw [x5]
  have h5 : pc4 a3 < 131072 := by unfold pc4; omega
  generalize pc4 a3 = a4 at *
  have hh4 := le a4 16
  have x6 : (a4 : Int) + aushr (a4 : Int) 16 = ((pc5 a4 : Nat) : Int) := by
    rw [s16, aushr_nat (by omega) (by decide)]; unfold pc5; omega
  rw [x6]
  have h6 : pc5 a4 < 262144 := by unfold pc5; omega
  have x7 : aand ((pc5 a4 : Nat) : Int) 63 = ((pc5 a4 &&& 63 : Nat) : Int) := by
    rw [m63, aand_nat (by omega) (by decide)]
  rw [x7, h4]
  exact c_ite (by omega) (c_ite (by omega) (c_ite (by omega) (c_ite (by omega) (c_ite (by omega) rfl))))
