/-! ===== numbers of the pure machine as whole numbers: bits, remainders ===== -/
theorem of_nat (n : Nat) : Int32.ofInt (n : Int) = nI n := Int32.toBitVec_inj.mp (by show BitVec.ofInt 32 (n : Int) = BitVec.ofNat 32 n; exact BitVec.ofInt_natCast 32 n)
theorem nIt {n : Nat} (h : n < 2147483648) : (nI n).toInt = (n : Int) := by rw [← of_nat]; exact i32_toInt (by omega)
def btx (x : Int32) (i : Nat) : Bool := x.toBitVec.getLsbD i
theorem btx_ext {x y : Int32} (h : ∀ i, i < 32 → btx x i = btx y i) : x = y := Int32.toBitVec_inj.mp (BitVec.eq_of_getLsbD_eq (fun i hi => h i hi))
theorem btx_or (x y : Int32) (i : Nat) : btx (x ||| y) i = (btx x i || btx y i) := by unfold btx; rw [Int32.toBitVec_or, BitVec.getLsbD_or]
theorem btx_and (x y : Int32) (i : Nat) : btx (x &&& y) i = (btx x i && btx y i) := by unfold btx; rw [Int32.toBitVec_and, BitVec.getLsbD_and]
theorem btx_xor (x y : Int32) (i : Nat) : btx (x ^^^ y) i = (btx x i ^^ btx y i) := by unfold btx; rw [Int32.toBitVec_xor, BitVec.getLsbD_xor]
theorem btx_m1 : ∀ i, i < 32 → btx (Int32.ofInt (-1)) i = true := by decide +kernel
theorem btx_nI (n : Nat) {i : Nat} (hi : i < 32) : btx (nI n) i = n.testBit i := by
  show (BitVec.ofNat 32 n).getLsbD i = n.testBit i
  rw [BitVec.getLsbD_ofNat]; simp [hi]
theorem sxl : ∀ n, n < 32 → ((nI n &&& 31).toBitVec.smod 32).toNat = n := by decide +kernel
theorem btx_sshr (n : Nat) (hn : n < 32) (x : Int32) {i : Nat} (hi : i < 32) : btx (x >>> (nI n &&& 31)) i = if n + i < 32 then btx x (n + i) else btx x 31 := by
  unfold btx
  rw [Int32.toBitVec_shiftRight]
  show (x.toBitVec.sshiftRight ((nI n &&& 31).toBitVec.smod 32).toNat).getLsbD i = _
  rw [sxl n hn, BitVec.getLsbD_sshiftRight, BitVec.msb_eq_getLsbD_last]
  simp [hi]
theorem aor_nat {a b : Nat} (ha : a < 2147483648) (hb : b < 2147483648) : aor a b = ((a ||| b : Nat) : Int) := by
  have h : a ||| b < 2147483648 := Nat.or_lt_two_pow (n := 31) ha hb
  unfold aor
  rw [of_nat, of_nat, ← nIt h]
  exact congrArg _ (btx_ext fun i hi => by rw [btx_or, btx_nI _ hi, btx_nI _ hi, btx_nI _ hi, Nat.testBit_or])
theorem aand_nat {a b : Nat} (ha : a < 2147483648) (hb : b < 2147483648) : aand a b = ((a &&& b : Nat) : Int) := by
  have h : a &&& b < 2147483648 := Nat.lt_of_le_of_lt Nat.and_le_left ha
  unfold aand
  rw [of_nat, of_nat, ← nIt h]
  exact congrArg _ (btx_ext fun i hi => by rw [btx_and, btx_nI _ hi, btx_nI _ hi, btx_nI _ hi, Nat.testBit_and])
theorem axor_nat {a b : Nat} (ha : a < 2147483648) (hb : b < 2147483648) : axor a b = ((a ^^^ b : Nat) : Int) := by
  have h : a ^^^ b < 2147483648 := Nat.xor_lt_two_pow (n := 31) ha hb
  unfold axor
  rw [of_nat, of_nat, ← nIt h]
  exact congrArg _ (btx_ext fun i hi => by rw [btx_xor, btx_nI _ hi, btx_nI _ hi, btx_nI _ hi, Nat.testBit_xor])
/-- bits of one that aren't bits of another -/
def ndf (a b : Nat) : Nat := a ^^^ (a &&& b)
theorem ndf_bit (a b i : Nat) : (ndf a b).testBit i = (a.testBit i && !b.testBit i) := by
  unfold ndf
  rw [Nat.testBit_xor, Nat.testBit_and]
  cases a.testBit i <;> cases b.testBit i <;> rfl
theorem ndf_lt {a b : Nat} (ha : a < 2147483648) : ndf a b < 2147483648 := Nat.xor_lt_two_pow (n := 31) ha (Nat.lt_of_le_of_lt Nat.and_le_left ha)
theorem aandn {a b : Nat} (ha : a < 2147483648) : aand a (axor b (-1)) = ((ndf a b : Nat) : Int) := by
  have h := ndf_lt (b := b) ha
  unfold aand axor
  rw [Int32.ofInt_toInt, of_nat, of_nat, ← nIt h]
  exact congrArg _ (btx_ext fun i hi => by rw [btx_and, btx_xor, btx_nI _ hi, btx_nI _ hi, btx_nI _ hi, btx_m1 i hi, ndf_bit]; cases b.testBit i <;> rfl)
theorem ashl_one : ∀ k, k < 31 → ashl 1 ((k : Nat) : Int) = ((2 ^ k : Nat) : Int) := by decide +kernel
/-- the bit test of both sides -/
theorem ahas {s k : Nat} (hs : s < 2147483648) (hk : k < 32) : aand (ashr s k) 1 = if s.testBit k then 1 else 0 := by
  unfold aand ashr
  rw [Int32.ofInt_toInt, of_nat, of_nat]
  have e : nI s >>> (nI k &&& 31) &&& Int32.ofInt 1 = nI (if s.testBit k then 1 else 0) := by
    refine btx_ext fun i hi => ?_
    rw [btx_and, btx_sshr k hk _ hi, btx_nI _ hi, show Int32.ofInt 1 = nI 1 from rfl, btx_nI _ hi]
    by_cases h0 : i = 0
    · subst h0
      rw [if_pos (by omega), btx_nI _ (by omega)]
      cases hb : s.testBit k
      · simp [hb]
      · simp [hb]
    · have h1 : Nat.testBit 1 i = false := by
        rw [show (1 : Nat) = 2 ^ 0 from rfl]
        exact Nat.testBit_two_pow_of_ne (fun h => h0 h.symm)
      rw [h1, Bool.and_false]
      cases hb : s.testBit k
      · simp
      · simp [h1]
  rw [e]
  cases hb : s.testBit k
  · rfl
  · rfl
theorem ahas1 {s k : Nat} (hs : s < 2147483648) (hk : k < 32) : (aand (ashr s k) 1 = 1) ↔ s.testBit k = true := by
  rw [ahas hs hk]
  cases s.testBit k <;> decide
theorem i32_div {a b : Nat} (ha : a < 2147483648) (hb : b < 2147483648) : (Int32.ofInt (a : Int) / Int32.ofInt (b : Int)) = Int32.ofInt ((a / b : Nat) : Int) := by
  apply Int32.toInt_inj.mp
  have h3 : a / b < 2147483648 := Nat.lt_of_le_of_lt (Nat.div_le_self a b) ha
  rw [Int32.toInt_div, i32_toInt (a := (a : Int)) (by omega), i32_toInt (a := (b : Int)) (by omega), Int.tdiv_eq_ediv_of_nonneg (by omega), ← Int.natCast_ediv]
  generalize a / b = q at h3 ⊢
  rw [i32_toInt (by omega)]
  exact Int.bmod_eq_of_le (by omega) (by omega)
theorem adiv_nat {a b : Nat} (ha : a < 2147483648) (hb : b < 2147483648) : adiv a b = ((a / b : Nat) : Int) := by
  unfold adiv
  have h3 : a / b < 2147483648 := Nat.lt_of_le_of_lt (Nat.div_le_self a b) ha
  rw [i32_div ha hb]
  generalize a / b = q at h3 ⊢
  rw [i32_toInt (by omega)]
theorem arem_nat {a b : Nat} (ha : a < 2147483648) (hb : b < 2147483648) : arem a b = ((a % b : Nat) : Int) := by
  unfold arem
  have h3 : a / b < 2147483648 := Nat.lt_of_le_of_lt (Nat.div_le_self a b) ha
  have h4 : a / b * b ≤ a := Nat.div_mul_le_self a b
  have h5 : a % b = a - a / b * b := by have := Nat.div_add_mod a b; rw [Nat.mul_comm] at this; omega
  rw [i32_div ha hb, h5]
  generalize a / b = q at h3 h4 ⊢
  have h6 : (q : Int) * (b : Int) = ((q * b : Nat) : Int) := by rw [Int.natCast_mul]
  rw [Int32.toInt_sub, Int32.toInt_mul, i32_toInt (a := (a : Int)) (by omega), i32_toInt (a := (b : Int)) (by omega), i32_toInt (a := (q : Int)) (by omega), h6]
  generalize q * b = r at h4 ⊢
  rw [Int.bmod_eq_of_le (n := (r : Int)) (by omega) (by omega)]
  rw [Int.bmod_eq_of_le (by omega) (by omega)]
  omega
theorem i64_div {a b : Nat} (ha : a < 9223372036854775808) (hb : b < 9223372036854775808) : (Int64.ofInt (a : Int) / Int64.ofInt (b : Int)) = Int64.ofInt ((a / b : Nat) : Int) := by
  apply Int64.toInt_inj.mp
  have h3 : a / b < 9223372036854775808 := Nat.lt_of_le_of_lt (Nat.div_le_self a b) ha
  rw [Int64.toInt_div, i64_toInt (a := (a : Int)) (by omega), i64_toInt (a := (b : Int)) (by omega), Int.tdiv_eq_ediv_of_nonneg (by omega), ← Int.natCast_ediv]
  generalize a / b = q at h3 ⊢
  rw [i64_toInt (by omega)]
  exact Int.bmod_eq_of_le (by omega) (by omega)
theorem aldiv_nat {a b : Nat} (ha : a < 9223372036854775808) (hb : b < 9223372036854775808) : aldiv a b = ((a / b : Nat) : Int) := by
  unfold aldiv
  have h3 : a / b < 9223372036854775808 := Nat.lt_of_le_of_lt (Nat.div_le_self a b) ha
  rw [i64_div ha hb]
  generalize a / b = q at h3 ⊢
  rw [i64_toInt (by omega)]
theorem alrem_nat {a b : Nat} (ha : a < 9223372036854775808) (hb : b < 9223372036854775808) : alrem a b = ((a % b : Nat) : Int) := by
  unfold alrem
  have h3 : a / b < 9223372036854775808 := Nat.lt_of_le_of_lt (Nat.div_le_self a b) ha
  have h4 : a / b * b ≤ a := Nat.div_mul_le_self a b
  have h5 : a % b = a - a / b * b := by have := Nat.div_add_mod a b; rw [Nat.mul_comm] at this; omega
  rw [i64_div ha hb, h5]
  generalize a / b = q at h3 h4 ⊢
  have h6 : (q : Int) * (b : Int) = ((q * b : Nat) : Int) := by rw [Int.natCast_mul]
  rw [Int64.toInt_sub, Int64.toInt_mul, i64_toInt (a := (a : Int)) (by omega), i64_toInt (a := (b : Int)) (by omega), i64_toInt (a := (q : Int)) (by omega), h6]
  generalize q * b = r at h4 ⊢
  rw [Int.bmod_eq_of_le (n := (r : Int)) (by omega) (by omega)]
  rw [Int.bmod_eq_of_le (by omega) (by omega)]
  omega
theorem ai2b_rng (a : Int) : -128 ≤ ai2b a ∧ ai2b a < 128 := by
  unfold ai2b
  rw [Int8.toInt_toInt32]
  have h1 := Int8.le_toInt (Int32.ofInt a).toInt8
  have h2 := Int8.toInt_lt (Int32.ofInt a).toInt8
  omega
theorem a255 : ∀ k : Nat, k < 256 → aand ((k : Int) - 128) 255 = if k < 128 then (k : Int) + 128 else (k : Int) - 128 := by decide +kernel
/-- a byte, as the model reads it -/
theorem aand255 {b : Int} (h1 : -128 ≤ b) (h2 : b < 128) : aand b 255 = if b < 0 then b + 256 else b := by
  have h := a255 (b + 128).toNat (by omega)
  rw [show (((b + 128).toNat : Nat) : Int) - 128 = b by omega] at h
  rw [h]
  split <;> split <;> omega
/-! sets told by a test: bits up to n -/
def msk (p : Nat → Bool) : Nat → Nat
  | 0 => 0
  | n + 1 => if p n then msk p n ||| 2 ^ n else msk p n
theorem msk_bit (p : Nat → Bool) : ∀ n i, (msk p n).testBit i = (decide (i < n) && p i)
  | 0, i => by simp [msk]
  | n + 1, i => by
    have ih := msk_bit p n i
    unfold msk
    by_cases hn : p n = true
    · rw [if_pos hn, Nat.testBit_or, ih]
      by_cases h : n = i
      · subst h; simp [hn]
      · rw [Nat.testBit_two_pow_of_ne h, Bool.or_false]
        have : decide (i < n) = decide (i < n + 1) := by rw [decide_eq_decide]; omega
        rw [this]
    · rw [if_neg hn, ih]
      by_cases h : n = i
      · subst h
        have : p n = false := by cases hp : p n; rfl; exact absurd hp hn
        rw [this, Bool.and_false, Bool.and_false]
      · have : decide (i < n) = decide (i < n + 1) := by rw [decide_eq_decide]; omega
        rw [this]
theorem msk_lt (p : Nat → Bool) (n : Nat) : msk p n < 2 ^ n := by
  induction n with
  | zero => exact Nat.zero_lt_one
  | succ n ih =>
    have h2 : 2 ^ n < 2 ^ (n + 1) := Nat.pow_lt_pow_right (by decide) (by omega)
    unfold msk
    split
    · exact Nat.or_lt_two_pow (Nat.lt_trans ih h2) h2
    · exact Nat.lt_trans ih h2
theorem msk_lt31 (p : Nat → Bool) {n : Nat} (h : n ≤ 31) : msk p n < 2147483648 := Nat.lt_of_lt_of_le (msk_lt p n) (Nat.pow_le_pow_right (n := 2) (by decide) h)
theorem msk_cong {p q : Nat → Bool} {n : Nat} (h : ∀ k, k < n → p k = q k) : msk p n = msk q n := by
  induction n with
  | zero => rfl
  | succ n ih =>
    unfold msk
    rw [ih (fun k hk => h k (by omega)), h n (by omega)]
theorem msk_eq {s : Nat} {p : Nat → Bool} {n : Nat} (h : ∀ i, s.testBit i = (decide (i < n) && p i)) : s = msk p n := Nat.eq_of_testBit_eq fun i => by rw [h, msk_bit]
/-- a step of a loop that makes a set -/
theorem msk_step {p : Nat → Bool} {n : Nat} (hn : n < 31) (b : Bool) (hb : b = p n) : (if b = true then aor ((msk p n : Nat) : Int) (ashl 1 ((n : Nat) : Int)) else ((msk p n : Nat) : Int)) = ((msk p (n + 1) : Nat) : Int) := by
  subst hb
  have e : msk p (n + 1) = if p n = true then msk p n ||| 2 ^ n else msk p n := rfl
  rw [e]
  by_cases h : p n = true
  · rw [if_pos h, if_pos h, ashl_one n hn]
    exact aor_nat (msk_lt31 p (by omega)) (Nat.pow_lt_pow_right (a := 2) (n := 31) (by decide) hn)
  · rw [if_neg h, if_neg h]
/-! counts told by a test -/
def cntp (p : Nat → Bool) : Nat → Nat
  | 0 => 0
  | n + 1 => cntp p n + (if p n then 1 else 0)
theorem cntp_le (p : Nat → Bool) : ∀ n, cntp p n ≤ n
  | 0 => Nat.le_refl _
  | n + 1 => by
    have := cntp_le p n
    show cntp p n + (if p n = true then 1 else 0) ≤ n + 1
    split <;> omega
theorem cntp_cong {p q : Nat → Bool} {n : Nat} (h : ∀ k, k < n → p k = q k) : cntp p n = cntp q n := by
  induction n with
  | zero => rfl
  | succ n ih =>
    show cntp p n + (if p n = true then 1 else 0) = cntp q n + (if q n = true then 1 else 0)
    rw [ih (fun k hk => h k (by omega)), h n (by omega)]
/-! the first that is so; n if none -/
def fst (p : Nat → Bool) : Nat → Nat
  | 0 => 0
  | n + 1 => if fst p n < n then fst p n else if p n then n else n + 1
theorem fst_le (p : Nat → Bool) : ∀ n, fst p n ≤ n
  | 0 => Nat.le_refl _
  | n + 1 => by
    have := fst_le p n
    unfold fst
    split
    · omega
    · split <;> omega
theorem fst_no (p : Nat → Bool) : ∀ n k, k < fst p n → p k = false
  | 0, k, h => absurd h (Nat.not_lt_zero k)
  | n + 1, k, h => by
    have ih := fst_no p n k
    have hle := fst_le p n
    unfold fst at h
    split at h
    · exact ih h
    · split at h
      · exact ih (by omega)
      · by_cases hk : k < n
        · exact ih (by omega)
        · have : k = n := by omega
          subst this
          rename_i h2
          cases hp : p k
          · rfl
          · exact absurd hp h2
theorem fst_yes (p : Nat → Bool) : ∀ n, fst p n < n → p (fst p n) = true
  | 0, h => absurd h (Nat.not_lt_zero _)
  | n + 1, h => by
    unfold fst at h ⊢
    split
    · rename_i h2; exact fst_yes p n h2
    · rename_i h2
      rw [if_neg h2] at h
      split
      · rename_i h3; exact h3
      · rename_i h3; rw [if_neg h3] at h; omega
theorem fst_eq {p : Nat → Bool} {n i : Nat} (hi : i < n) (h1 : p i = true) (h2 : ∀ k, k < i → p k = false) : fst p n = i := by
  rcases Nat.lt_trichotomy (fst p n) i with h | h | h
  · have := fst_yes p n (by omega); rw [h2 _ h] at this; cases this
  · exact h
  · have := fst_no p n i h; rw [h1] at this; cases this
theorem fst_none {p : Nat → Bool} {n : Nat} (h : ∀ k, k < n → p k = false) : fst p n = n := by
  have h1 := fst_le p n
  rcases Nat.lt_or_ge (fst p n) n with h2 | h2
  · have := fst_yes p n h2; rw [h _ h2] at this; cases this
  · omega
theorem fst_cong {p q : Nat → Bool} {n : Nat} (h : ∀ k, k < n → p k = q k) : fst p n = fst q n := by
  induction n with
  | zero => rfl
  | succ n ih =>
    unfold fst
    rw [ih (fun k hk => h k (by omega)), h n (by omega)]
