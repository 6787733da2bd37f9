/-! ===== subsets, one behind another; bits taken off one by one ===== -/
theorem and2 {a b x y : Nat} (hx : x < 2) (hy : y < 2) : (2 * a + x) &&& (2 * b + y) = 2 * (a &&& b) + (x &&& y) := by
  have hxy : x &&& y < 2 := Nat.lt_of_le_of_lt Nat.and_le_left hx
  apply Nat.eq_of_testBit_eq
  intro i
  cases i with
  | zero =>
    rw [Nat.testBit_and, Nat.testBit_zero, Nat.testBit_zero, Nat.testBit_zero]
    have e1 : (2 * a + x) % 2 = x := by omega
    have e2 : (2 * b + y) % 2 = y := by omega
    have e3 : (2 * (a &&& b) + (x &&& y)) % 2 = x &&& y := by omega
    rw [e1, e2, e3]
    have hx' : x = 0 ∨ x = 1 := by omega
    have hy' : y = 0 ∨ y = 1 := by omega
    rcases hx' with rfl | rfl <;> rcases hy' with rfl | rfl <;> rfl
  | succ i =>
    rw [Nat.testBit_and, Nat.testBit_succ, Nat.testBit_succ, Nat.testBit_succ, show (2 * a + x) / 2 = a by omega, show (2 * b + y) / 2 = b by omega, show (2 * (a &&& b) + (x &&& y)) / 2 = a &&& b by omega, Nat.testBit_and]
theorem or2 {a b x y : Nat} (hx : x < 2) (hy : y < 2) : (2 * a + x) ||| (2 * b + y) = 2 * (a ||| b) + (x ||| y) := by
  have hxy : x ||| y < 2 := Nat.or_lt_two_pow (n := 1) hx hy
  apply Nat.eq_of_testBit_eq
  intro i
  cases i with
  | zero =>
    rw [Nat.testBit_or, Nat.testBit_zero, Nat.testBit_zero, Nat.testBit_zero]
    have e1 : (2 * a + x) % 2 = x := by omega
    have e2 : (2 * b + y) % 2 = y := by omega
    have e3 : (2 * (a ||| b) + (x ||| y)) % 2 = x ||| y := by omega
    rw [e1, e2, e3]
    have hx' : x = 0 ∨ x = 1 := by omega
    have hy' : y = 0 ∨ y = 1 := by omega
    rcases hx' with rfl | rfl <;> rcases hy' with rfl | rfl <;> rfl
  | succ i =>
    rw [Nat.testBit_or, Nat.testBit_succ, Nat.testBit_succ, Nat.testBit_succ, show (2 * a + x) / 2 = a by omega, show (2 * b + y) / 2 = b by omega, show (2 * (a ||| b) + (x ||| y)) / 2 = a ||| b by omega, Nat.testBit_or]
theorem add_or : ∀ n a b : Nat, a ≤ n → a &&& b = 0 → a + b = a ||| b
  | 0, a, b, h, _ => by rw [show a = 0 by omega, Nat.zero_add, Nat.zero_or]
  | n + 1, a, b, h, h0 => by
    by_cases ha : a = 0
    · rw [ha, Nat.zero_add, Nat.zero_or]
    · have ea : a = 2 * (a / 2) + a % 2 := by omega
      have eb : b = 2 * (b / 2) + b % 2 := by omega
      have a1 := and2 (a := a / 2) (b := b / 2) (x := a % 2) (y := b % 2) (by omega) (by omega)
      have o1 := or2 (a := a / 2) (b := b / 2) (x := a % 2) (y := b % 2) (by omega) (by omega)
      rw [← ea, ← eb] at a1 o1
      rw [h0] at a1
      have ih := add_or n (a / 2) (b / 2) (by omega) (by omega)
      have h2 : a % 2 &&& b % 2 = 0 := by omega
      have h3 : a % 2 ||| b % 2 = a % 2 + b % 2 := by
        have hx' : a % 2 = 0 ∨ a % 2 = 1 := by omega
        have hy' : b % 2 = 0 ∨ b % 2 = 1 := by omega
        rcases hx' with h | h <;> rcases hy' with h' | h' <;> rw [h, h'] at h2 ⊢ <;> first | rfl | cases h2
      omega
theorem cntp_half (w n : Nat) : cntp w.testBit (n + 1) = w % 2 + cntp (w / 2).testBit n := by
  have h1 := cntp_add w.testBit 1 n
  rw [Nat.add_comm 1 n] at h1
  rw [h1, cntp_cong (p := fun i => w.testBit (1 + i)) (q := (w / 2).testBit) (fun k _ => by rw [Nat.add_comm 1 k, Nat.testBit_succ])]
  have : cntp w.testBit 1 = w % 2 := by
    show 0 + (if w.testBit 0 then 1 else 0) = w % 2
    rw [Nat.testBit_zero]
    by_cases h : w % 2 = 1
    · rw [decide_eq_true h, if_pos rfl, h]
    · rw [decide_eq_false h, if_neg (by decide)]; omega
  rw [this]
/-- subsets of w, downward -/
def sq (w : Nat) : Nat → Nat
  | 0 => w
  | i + 1 => (sq w i - 1) &&& w
theorem sq_sub (w : Nat) : ∀ i, sq w i &&& w = sq w i
  | 0 => Nat.and_self w
  | i + 1 => by
    show ((sq w i - 1) &&& w) &&& w = (sq w i - 1) &&& w
    rw [Nat.and_assoc, Nat.and_self]
theorem sq_even (w : Nat) : ∀ i, sq (2 * w) i = 2 * sq w i
  | 0 => rfl
  | i + 1 => by
    show (sq (2 * w) i - 1) &&& (2 * w) = 2 * ((sq w i - 1) &&& w)
    rw [sq_even w i]
    rcases Nat.eq_zero_or_pos (sq w i) with h | h
    · rw [h]
      show (0 : Nat) &&& (2 * w) = 2 * ((0 - 1) &&& w)
      rw [Nat.zero_and, Nat.zero_sub, Nat.zero_and]
    · have := and2 (a := sq w i - 1) (b := w) (x := 1) (y := 0) (by decide) (by decide)
      rw [show 2 * sq w i - 1 = 2 * (sq w i - 1) + 1 by omega, show 2 * w = 2 * w + 0 from rfl, this]; rfl
theorem sq_odd (w : Nat) : ∀ i, (∀ j, j < i → 0 < sq w j) → sq (2 * w + 1) (2 * i) = 2 * sq w i + 1 ∧ sq (2 * w + 1) (2 * i + 1) = 2 * sq w i
  | 0, _ => by
    refine ⟨rfl, ?_⟩
    show (2 * w + 1 - 1) &&& (2 * w + 1) = 2 * w
    have := and2 (a := w) (b := w) (x := 0) (y := 1) (by decide) (by decide)
    rw [show 2 * w + 1 - 1 = 2 * w + 0 by omega, this, Nat.and_self]; rfl
  | i + 1, h => by
    have ih := sq_odd w i (fun j hj => h j (by omega))
    have hp := h i (by omega)
    have e1 : sq (2 * w + 1) (2 * (i + 1)) = 2 * sq w (i + 1) + 1 := by
      show (sq (2 * w + 1) (2 * i + 1) - 1) &&& (2 * w + 1) = 2 * ((sq w i - 1) &&& w) + 1
      have := and2 (a := sq w i - 1) (b := w) (x := 1) (y := 1) (by decide) (by decide)
      rw [ih.2, show 2 * sq w i - 1 = 2 * (sq w i - 1) + 1 by omega, this]; rfl
    refine ⟨e1, ?_⟩
    show (sq (2 * w + 1) (2 * (i + 1)) - 1) &&& (2 * w + 1) = 2 * sq w (i + 1)
    have := and2 (a := sq w (i + 1)) (b := w) (x := 0) (y := 1) (by decide) (by decide)
    rw [e1, show 2 * sq w (i + 1) + 1 - 1 = 2 * sq w (i + 1) + 0 by omega, this, sq_sub]; rfl
theorem sq_end : ∀ n w, w < 2 ^ n → (∀ i, i + 1 < 2 ^ cntp w.testBit n → 0 < sq w i) ∧ sq w (2 ^ cntp w.testBit n - 1) = 0
  | 0, w, h => by
    have : w = 0 := by omega
    subst this
    refine ⟨fun i hi => ?_, rfl⟩
    have : (2 : Nat) ^ cntp (Nat.testBit 0) 0 = 1 := rfl
    omega
  | n + 1, w, h => by
    have hw : w / 2 < 2 ^ n := by rw [Nat.pow_succ] at h; omega
    obtain ⟨h1, h2⟩ := sq_end n (w / 2) hw
    rw [cntp_half]
    have hpos : 0 < 2 ^ cntp (w / 2).testBit n := Nat.two_pow_pos _
    by_cases hb : w % 2 = 0
    · rw [hb, Nat.zero_add]
      have e : w = 2 * (w / 2) := by omega
      refine ⟨fun i hi => ?_, ?_⟩
      · rw [e, sq_even]; have := h1 i hi; omega
      · rw [e, sq_even, ← e, h2]
    · have e : w = 2 * (w / 2) + 1 := by omega
      rw [show w % 2 = 1 by omega, Nat.add_comm 1, Nat.pow_succ]
      refine ⟨fun i hi => ?_, ?_⟩
      · have hlt : i / 2 < 2 ^ cntp (w / 2).testBit n := by omega
        have ho := sq_odd (w / 2) (i / 2) (fun j hj => h1 j (by omega))
        rw [← e] at ho
        by_cases hp : i % 2 = 0
        · rw [show i = 2 * (i / 2) by omega, ho.1]; omega
        · rw [show i = 2 * (i / 2) + 1 by omega, ho.2]
          have := h1 (i / 2) (by omega)
          omega
      · have ho := sq_odd (w / 2) (2 ^ cntp (w / 2).testBit n - 1) (fun j hj => h1 j (by omega))
        rw [← e] at ho
        rw [show 2 ^ cntp (w / 2).testBit n * 2 - 1 = 2 * (2 ^ cntp (w / 2).testBit n - 1) + 1 by omega, ho.2, h2]
/-- none between one and the next -/
theorem sq_gap : ∀ s w t, s &&& w = s → t &&& w = t → t < s → t ≤ (s - 1) &&& w := by
  intro s
  induction s using Nat.strongRecOn with
  | ind s ih =>
    intro w t hs ht hlt
    have es : s = 2 * (s / 2) + s % 2 := by omega
    have ew : w = 2 * (w / 2) + w % 2 := by omega
    have et : t = 2 * (t / 2) + t % 2 := by omega
    have a1 := and2 (a := s / 2) (b := w / 2) (x := s % 2) (y := w % 2) (by omega) (by omega)
    have a2 := and2 (a := t / 2) (b := w / 2) (x := t % 2) (y := w % 2) (by omega) (by omega)
    rw [← es, ← ew, hs] at a1
    rw [← et, ← ew, ht] at a2
    have b1 : s % 2 &&& w % 2 ≤ s % 2 := Nat.and_le_left
    have b2 : t % 2 &&& w % 2 ≤ w % 2 := Nat.and_le_right
    have b3 : t % 2 &&& w % 2 ≤ t % 2 := Nat.and_le_left
    have hs2 : s / 2 &&& w / 2 = s / 2 := by omega
    have ht2 : t / 2 &&& w / 2 = t / 2 := by omega
    by_cases hb : s % 2 = 1
    · have a3 := and2 (a := s / 2) (b := w / 2) (x := 0) (y := w % 2) (by omega) (by omega)
      rw [← ew, Nat.zero_and, hs2] at a3
      rw [show s - 1 = 2 * (s / 2) + 0 by omega, a3]
      omega
    · have hp : 0 < s / 2 := by omega
      have a3 := and2 (a := s / 2 - 1) (b := w / 2) (x := 1) (y := w % 2) (by omega) (by omega)
      rw [← ew] at a3
      have b4 : 1 &&& w % 2 = w % 2 := by
        have : w % 2 = 0 ∨ w % 2 = 1 := by omega
        rcases this with h | h <;> rw [h] <;> rfl
      rw [show s - 1 = 2 * (s / 2 - 1) + 1 by omega, a3, b4]
      by_cases hq : t / 2 < s / 2
      · have := ih (s / 2) (by omega) (w / 2) (t / 2) hs2 ht2 hq
        omega
      · omega
/-- sums over subsets, upward; downward -/
def sbs (f : Nat → Nat) (w : Nat) : Nat → Nat
  | 0 => 0
  | n + 1 => sbs f w n + (if n &&& w = n then f n else 0)
theorem sbs_gap {f : Nat → Nat} {w a : Nat} : ∀ b, a ≤ b → (∀ t, a ≤ t → t < b → ¬ t &&& w = t) → sbs f w b = sbs f w a
  | 0, h, _ => by rw [show a = 0 by omega]
  | b + 1, h, hn => by
    by_cases hab : a = b + 1
    · rw [hab]
    · show sbs f w b + (if b &&& w = b then f b else 0) = _
      rw [if_neg (hn b (by omega) (by omega)), sbs_gap b (by omega) (fun t h1 h2 => hn t h1 (by omega))]; rfl
def sdn (f : Nat → Nat) (w : Nat) : Nat → Nat
  | 0 => 0
  | i + 1 => sdn f w i + f (sq w i)
theorem sdn_sbs {f : Nat → Nat} {w : Nat} : ∀ i, (∀ j, j < i → 0 < sq w j) → sdn f w i + sbs f w (sq w i + 1) = sbs f w (w + 1)
  | 0, _ => by show 0 + _ = _; rw [Nat.zero_add]; rfl
  | i + 1, h => by
    have ih : sdn f w i + sbs f w (sq w i + 1) = sbs f w (w + 1) := sdn_sbs i (fun j hj => h j (by omega))
    have hp := h i (by omega)
    have e1 : sbs f w (sq w i + 1) = sbs f w (sq w i) + f (sq w i) := by
      show sbs f w (sq w i) + (if sq w i &&& w = sq w i then f (sq w i) else 0) = _
      rw [if_pos (sq_sub w i)]
    have hle : sq w (i + 1) ≤ sq w i - 1 := Nat.and_le_left
    have e2 : sbs f w (sq w i) = sbs f w (sq w (i + 1) + 1) := by
      apply sbs_gap _ (by omega)
      intro t h1 h2 h3
      have : t ≤ sq w (i + 1) := sq_gap (sq w i) w t (sq_sub w i) h3 h2
      omega
    show sdn f w i + f (sq w i) + sbs f w (sq w (i + 1) + 1) = _
    omega
theorem sdn_all {f : Nat → Nat} {w n : Nat} (h : w < 2 ^ n) : sdn f w (2 ^ cntp w.testBit n) = sbs f w (w + 1) := by
  obtain ⟨h1, h2⟩ := sq_end n w h
  have hpos : 0 < 2 ^ cntp w.testBit n := Nat.two_pow_pos _
  have h3 := sdn_sbs (f := f) (w := w) (2 ^ cntp w.testBit n - 1) (fun j hj => h1 j (by omega))
  rw [h2] at h3
  have e : sdn f w (2 ^ cntp w.testBit n - 1 + 1) = sdn f w (2 ^ cntp w.testBit n - 1) + f (sq w (2 ^ cntp w.testBit n - 1)) := rfl
  rw [h2, show 2 ^ cntp w.testBit n - 1 + 1 = 2 ^ cntp w.testBit n by omega] at e
  have e2 : sbs f w (0 + 1) = 0 + (if 0 &&& w = 0 then f 0 else 0) := rfl
  rw [Nat.zero_and, if_pos rfl] at e2
  omega
/-- bits taken off, the lowest first -/
def kb (n : Nat) : Nat → Nat
  | 0 => n
  | i + 1 => kb n i &&& (kb n i - 1)
theorem kb_even (m : Nat) : ∀ i, kb (2 * m) i = 2 * kb m i
  | 0 => rfl
  | i + 1 => by
    show kb (2 * m) i &&& (kb (2 * m) i - 1) = 2 * (kb m i &&& (kb m i - 1))
    rw [kb_even m i]
    rcases Nat.eq_zero_or_pos (kb m i) with h | h
    · rw [h]; rfl
    · have := and2 (a := kb m i) (b := kb m i - 1) (x := 0) (y := 1) (by decide) (by decide)
      rw [show 2 * kb m i - 1 = 2 * (kb m i - 1) + 1 by omega, show 2 * kb m i = 2 * kb m i + 0 from rfl, this]; rfl
theorem kb_odd (m : Nat) : ∀ i, kb (2 * m + 1) (i + 1) = kb (2 * m) i
  | 0 => by
    show (2 * m + 1) &&& (2 * m + 1 - 1) = 2 * m
    have := and2 (a := m) (b := m) (x := 1) (y := 0) (by decide) (by decide)
    rw [show 2 * m + 1 - 1 = 2 * m + 0 by omega, this, Nat.and_self]; rfl
  | i + 1 => by
    show kb (2 * m + 1) (i + 1) &&& (kb (2 * m + 1) (i + 1) - 1) = kb (2 * m) i &&& (kb (2 * m) i - 1)
    rw [kb_odd m i]
theorem kb_end : ∀ N n, n < 2 ^ N → (∀ i, i < cntp n.testBit N → 0 < kb n i) ∧ kb n (cntp n.testBit N) = 0
  | 0, n, h => by
    have : n = 0 := by omega
    subst this
    exact ⟨fun i hi => absurd hi (Nat.not_lt_zero i), rfl⟩
  | N + 1, n, h => by
    have hw : n / 2 < 2 ^ N := by rw [Nat.pow_succ] at h; omega
    obtain ⟨h1, h2⟩ := kb_end N (n / 2) hw
    rw [cntp_half]
    by_cases hb : n % 2 = 0
    · have e : n = 2 * (n / 2) := by omega
      rw [hb, Nat.zero_add]
      refine ⟨fun i hi => ?_, ?_⟩
      · rw [e, kb_even]; have := h1 i hi; omega
      · rw [e, kb_even, ← e, h2]
    · have e : n = 2 * (n / 2) + 1 := by omega
      rw [show n % 2 = 1 by omega]
      refine ⟨fun i hi => ?_, ?_⟩
      · cases i with
        | zero => show 0 < n; omega
        | succ i => rw [e, kb_odd, kb_even]; have := h1 i (by omega); omega
      · rw [Nat.add_comm 1, e, kb_odd, kb_even, ← e, h2]
theorem kb_le (n : Nat) : ∀ i, kb n i ≤ n
  | 0 => Nat.le_refl _
  | i + 1 => Nat.le_trans Nat.and_le_left (kb_le n i)
theorem g_bits {T n : Nat} {M : aM} (h : n < 65536) : f_X13_bits T (n : Int) M = some ((cntp n.testBit 16 : Nat) : Int) := by
  obtain ⟨h1, h2⟩ := kb_end 16 n h
  have hc := cntp_le n.testBit 16
  unfold f_X13_bits
  refine for_until (fun i q => l_X13_bits_4 T M (fun w4 w5 => some w4) q (i : Int) ((kb n i : Nat) : Int)) (cntp n.testBit 16) (fun i q hi => ?_) (fun q => ?_) (by omega)
  · have hp := h1 i hi
    have hle := kb_le n i
    show l_X13_bits_4 T M _ (q + 1) (i : Int) ((kb n i : Nat) : Int) = l_X13_bits_4 T M _ q ((i + 1 : Nat) : Int) ((kb n (i + 1) : Nat) : Int)
    rw [l_X13_bits_4, show ((kb n i : Nat) : Int) - 1 = ((kb n i - 1 : Nat) : Int) by omega, aand_nat (by omega) (by omega)]
    exact c_neg (by omega) (c_ite (by omega) (c_ite (by omega) rfl))
  · show l_X13_bits_4 T M _ (q + 1) ((cntp n.testBit 16 : Nat) : Int) ((kb n (cntp n.testBit 16) : Nat) : Int) = _
    rw [l_X13_bits_4, h2]
    exact c_pos rfl rfl
/-- the class's next one, in whole numbers: what stays goes down by one subset -/
theorem nextD {w s : Nat} (hw : w < 2147483648) (hs : s &&& w = s) (hp : 0 < s) : aand (((w - s : Nat) : Int) - (w : Int)) (w : Int) = ((w - ((s - 1) &&& w) : Nat) : Int) := by
  have hle : s ≤ w := by rw [← hs]; exact Nat.and_le_right
  have e1 : (((w - s : Nat) : Int) - (w : Int)) = -((s : Nat) : Int) := by omega
  have e2 : Int32.ofInt (-((s : Nat) : Int)) = nI (s - 1) ^^^ Int32.ofInt (-1) := by
    apply Int32.toInt_inj.mp
    have hx : (Int32.ofInt (-1) : Int32) = -1 := rfl
    have h3 : axor ((s - 1 : Nat) : Int) (-1) = (nI (s - 1) ^^^ Int32.ofInt (-1)).toInt := by unfold axor; rw [of_nat]
    rw [← h3, i32_toInt (by omega)]
    unfold axor
    have h4 : ∀ x : Int32, (x ^^^ Int32.ofInt (-1)) = ~~~x := fun x => by
      apply Int32.toBitVec_inj.mp
      apply BitVec.eq_of_getLsbD_eq
      intro i hi
      have := btx_m1 i hi
      unfold btx at this
      rw [Int32.toBitVec_xor, BitVec.getLsbD_xor, this, Int32.toBitVec_not, BitVec.getLsbD_not]
      simp [hi]
    rw [h4, Int32.not_eq_neg_add, Int32.toInt_sub, Int32.toInt_neg, of_nat, nIt (by omega)]
    have h5 : (1 : Int32).toInt = 1 := rfl
    rw [h5, Int.bmod_eq_of_le (n := -(((s - 1 : Nat)) : Int)) (by omega) (by omega), Int.bmod_eq_of_le (by omega) (by omega)]
    omega
  have e3 : aand (-((s : Nat) : Int)) (w : Int) = ((ndf w (s - 1) : Nat) : Int) := by
    have h := ndf_lt (b := s - 1) hw
    unfold aand
    rw [e2, of_nat, ← nIt h]
    exact congrArg _ (btx_ext fun i hi => by rw [btx_and, btx_xor, btx_nI _ hi, btx_nI _ hi, btx_nI _ hi, btx_m1 i hi, ndf_bit]; cases w.testBit i <;> cases (s - 1).testBit i <;> rfl)
  rw [e1, e3]
  congr 1
  have h6 : ndf w (s - 1) + (w &&& (s - 1)) = w := by
    have h7 : w &&& (s - 1) = w ^^^ ndf w (s - 1) := by
      apply Nat.eq_of_testBit_eq
      intro i
      rw [Nat.testBit_and, Nat.testBit_xor, ndf_bit]
      cases w.testBit i <;> cases (s - 1).testBit i <;> rfl
    have h8 : ndf w (s - 1) &&& (w &&& (s - 1)) = 0 := by
      apply Nat.eq_of_testBit_eq
      intro i
      rw [Nat.testBit_and, Nat.testBit_and, ndf_bit, Nat.zero_testBit]
      cases w.testBit i <;> cases (s - 1).testBit i <;> rfl
    have h9 : ndf w (s - 1) ||| (w &&& (s - 1)) = w := by
      apply Nat.eq_of_testBit_eq
      intro i
      rw [Nat.testBit_or, Nat.testBit_and, ndf_bit]
      cases w.testBit i <;> cases (s - 1).testBit i <;> rfl
    have h10 := add_or _ _ _ (Nat.le_refl _) h8
    omega
  rw [Nat.and_comm (s - 1)]
  omega
