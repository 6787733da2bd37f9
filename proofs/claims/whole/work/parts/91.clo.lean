/-! ===== sets that grow till they stay; parts, neck ===== -/
/-- some below n -/
def exb (p : Nat → Bool) : Nat → Bool
  | 0 => false
  | n + 1 => exb p n || p n
theorem exb_iff {p : Nat → Bool} : ∀ n, exb p n = true ↔ ∃ y, y < n ∧ p y = true
  | 0 => by
    constructor
    · intro h; cases h
    · rintro ⟨y, h, -⟩; exact absurd h (Nat.not_lt_zero y)
  | n + 1 => by
    show (exb p n || p n) = true ↔ _
    rw [Bool.or_eq_true, exb_iff n]
    constructor
    · rintro (⟨y, h1, h2⟩ | h)
      · exact ⟨y, by omega, h2⟩
      · exact ⟨n, by omega, h⟩
    · rintro ⟨y, h1, h2⟩
      by_cases h : y = n
      · subst h; exact Or.inr h2
      · exact Or.inl ⟨y, by omega, h2⟩
theorem exb_cong {p q : Nat → Bool} : ∀ n, (∀ y, y < n → p y = q y) → exb p n = exb q n
  | 0, _ => rfl
  | n + 1, h => by
    show (exb p n || p n) = (exb q n || q n)
    rw [exb_cong n (fun y hy => h y (by omega)), h n (by omega)]
theorem bool_ext {a b : Bool} (h : a = true ↔ b = true) : a = b := by
  cases a <;> cases b
  · rfl
  · exact absurd (h.mpr rfl) (by decide)
  · exact absurd (h.mp rfl) (by decide)
  · rfl
theorem cntp_sub {p q : Nat → Bool} : ∀ n, (∀ x, x < n → p x = true → q x = true) → cntp p n ≤ cntp q n ∧ (cntp p n = cntp q n → ∀ x, x < n → q x = p x)
  | 0, _ => ⟨Nat.le_refl _, fun _ x h => absurd h (Nat.not_lt_zero x)⟩
  | n + 1, h => by
    obtain ⟨h1, h2⟩ := cntp_sub n (fun x hx => h x (by omega))
    have h3 := h n (by omega)
    have e1 : cntp p (n + 1) = cntp p n + (if p n = true then 1 else 0) := rfl
    have e2 : cntp q (n + 1) = cntp q n + (if q n = true then 1 else 0) := rfl
    have h4 : (if p n = true then 1 else 0) ≤ (if q n = true then 1 else 0) ∧ ((if p n = true then 1 else 0) = (if q n = true then 1 else 0) → q n = p n) := by
      revert h3
      cases p n <;> cases q n <;> decide
    rw [e1, e2]
    generalize (if p n = true then 1 else 0) = a at h4
    generalize (if q n = true then 1 else 0) = b at h4
    refine ⟨by omega, fun he x hx => ?_⟩
    by_cases hxn : x = n
    · subst hxn; exact h4.2 (by omega)
    · exact h2 (by omega) x (by omega)
/-- what grows, and stays once it has stayed, stays soon -/
theorem grow_stop {n : Nat} (P : Nat → Nat → Bool) (hm : ∀ i x, P i x = true → P (i + 1) x = true) (hs : ∀ i, (∀ x, x < n → P (i + 1) x = P i x) → ∀ x, x < n → P (i + 2) x = P (i + 1) x) {x0 : Nat} (hx : x0 < n) (h0 : P 0 x0 = true) : ∀ i, n ≤ i + 1 → ∀ x, x < n → P (i + 1) x = P i x := by
  have h1 : 1 ≤ cntp (P 0) n := by
    have := cntp_sub (p := fun x => decide (x = x0)) (q := P 0) n (fun x _ e => by rw [of_decide_eq_true e]; exact h0)
    have h2 : ∀ m, x0 < m → 1 ≤ cntp (fun x => decide (x = x0)) m := by
      intro m
      induction m with
      | zero => intro h; exact absurd h (Nat.not_lt_zero _)
      | succ m ih =>
        intro h
        show 1 ≤ cntp (fun x => decide (x = x0)) m + (if decide (m = x0) = true then 1 else 0)
        by_cases e : m = x0
        · rw [decide_eq_true e, if_pos rfl]; omega
        · have := ih (by omega); omega
    have := h2 n hx
    omega
  have key : ∀ i, (∀ x, x < n → P (i + 1) x = P i x) ∨ i + 2 ≤ cntp (P (i + 1)) n := by
    intro i
    induction i with
    | zero =>
      have h2 := cntp_sub (p := P 0) (q := P 1) n (fun x _ => hm 0 x)
      by_cases e : cntp (P 0) n = cntp (P 1) n
      · exact Or.inl (h2.2 e)
      · exact Or.inr (by show 2 ≤ cntp (P 1) n; omega)
    | succ i ih =>
      rcases ih with ih | ih
      · exact Or.inl (hs i ih)
      · have h2 := cntp_sub (p := P (i + 1)) (q := P (i + 2)) n (fun x _ => hm (i + 1) x)
        by_cases e : cntp (P (i + 1)) n = cntp (P (i + 2)) n
        · exact Or.inl (h2.2 e)
        · exact Or.inr (by show i + 3 ≤ cntp (P (i + 2)) n; omega)
  intro i hi
  rcases key i with h | h
  · exact h
  · have := cntp_le (P (i + 1)) n; omega
/-- within some steps from a cave -/
def stg (g : Nat → Nat → Bool) (c : Nat) : Nat → Nat → Bool
  | 0, x => decide (x = c)
  | i + 1, x => stg g c i x || exb (fun y => stg g c i y && g y x) 8
/-- what was there a step ago -/
def lk (g : Nat → Nat → Bool) (c : Nat) : Nat → Nat → Bool
  | 0, _ => false
  | i + 1, x => stg g c i x
section Clo
variable {g : Nat → Nat → Bool} {c : Nat}
theorem stg_iff (i x : Nat) : stg g c (i + 1) x = true ↔ stg g c i x = true ∨ ∃ y, y < 8 ∧ stg g c i y = true ∧ g y x = true := by
  show (stg g c i x || exb (fun y => stg g c i y && g y x) 8) = true ↔ _
  rw [Bool.or_eq_true, exb_iff]
  simp only [Bool.and_eq_true]
theorem stg_up (i x : Nat) (h : stg g c i x = true) : stg g c (i + 1) x = true := (stg_iff i x).mpr (Or.inl h)
theorem stg_le (x : Nat) {i : Nat} (h : stg g c i x = true) : ∀ j, stg g c (i + j) x = true
  | 0 => h
  | j + 1 => stg_up _ _ (stg_le x h j)
theorem stg_stay {i : Nat} (h : ∀ x, x < 8 → stg g c (i + 1) x = stg g c i x) : ∀ j x, x < 8 → stg g c (i + j) x = stg g c i x
  | 0, x, _ => rfl
  | j + 1, x, hx => by
    show (stg g c (i + j) x || exb (fun y => stg g c (i + j) y && g y x) 8) = _
    rw [stg_stay h j x hx, exb_cong (q := fun y => stg g c i y && g y x) 8 (fun y hy => by rw [stg_stay h j y hy])]
    exact h x hx
theorem stg_stop (hc : c < 8) {i : Nat} (hi : 7 ≤ i) (x : Nat) (hx : x < 8) : stg g c (i + 1) x = stg g c i x := by
  refine grow_stop (n := 8) (stg g c) stg_up (fun i h => ?_) hc (decide_eq_true rfl) i (by omega) x hx
  intro x hx
  have := stg_stay h 2 x hx
  rw [this]
  exact (h x hx).symm
theorem stg_end (hc : c < 8) {i : Nat} (hi : 7 ≤ i) (x : Nat) (hx : x < 8) : stg g c i x = stg g c 7 x := by
  have := stg_stay (g := g) (i := 7) (fun y hy => stg_stop hc (Nat.le_refl 7) y hy) (i - 7) x hx
  rw [show 7 + (i - 7) = i by omega] at this
  exact this
theorem stg_8 (hc : c < 8) {i x : Nat} (hx : x < 8) (h : stg g c i x = true) : stg g c 8 x = true := by
  by_cases hi : i ≤ 8
  · have := stg_le x h (8 - i)
    rw [show i + (8 - i) = 8 by omega] at this
    exact this
  · rw [stg_end hc (by omega) x hx] at h
    exact stg_up _ _ h
/-- sets put together -/
def uni (F : Nat) (b : Nat → Bool) (G : Nat → Nat) : Nat → Nat
  | 0 => F
  | n + 1 => if b n then uni F b G n ||| G n else uni F b G n
theorem uni_bit (F : Nat) (b : Nat → Bool) (G : Nat → Nat) (x : Nat) : ∀ n, (uni F b G n).testBit x = (F.testBit x || exb (fun y => b y && (G y).testBit x) n)
  | 0 => by show F.testBit x = (F.testBit x || false); rw [Bool.or_false]
  | n + 1 => by
    have ih := uni_bit F b G x n
    show (if b n = true then uni F b G n ||| G n else uni F b G n).testBit x = (F.testBit x || (exb (fun y => b y && (G y).testBit x) n || (b n && (G n).testBit x)))
    cases b n
    · rw [if_neg (by decide), ih, Bool.false_and, Bool.or_false]
    · rw [if_pos rfl, Nat.testBit_or, ih, Bool.true_and, Bool.or_assoc]
theorem uni_lt {F : Nat} {b : Nat → Bool} {G : Nat → Nat} (hF : F < 256) : ∀ n, (∀ y, y < n → G y < 256) → uni F b G n < 256
  | 0, _ => hF
  | n + 1, h => by
    have ih := uni_lt (b := b) hF n (fun y hy => h y (by omega))
    show (if b n = true then uni F b G n ||| G n else uni F b G n) < 256
    split
    · exact Nat.or_lt_two_pow (n := 8) ih (h n (by omega))
    · exact ih
theorem uni_loop {α : Type} (l : Nat → Int → Int → Option α) (N F : Nat) (b : Nat → Bool) (G : Nat → Nat) {y : Option α} (hN : N ≤ 8) (hF : F < 256) (hG : ∀ y, y < N → G y < 256) (hs : ∀ i n, i < N → l (n + 1) ((uni F b G i : Nat) : Int) (i : Int) = l n (if b i = true then aor ((uni F b G i : Nat) : Int) ((G i : Nat) : Int) else ((uni F b G i : Nat) : Int)) ((i : Int) + 1)) (he : ∀ n, l (n + 1) ((uni F b G N : Nat) : Int) (N : Int) = y) : l FU (F : Int) 0 = y := by
  refine for_until (fun i n => l n ((uni F b G i : Nat) : Int) (i : Int)) N (fun i n hi => ?_) he (by omega)
  show l (n + 1) ((uni F b G i : Nat) : Int) (i : Int) = l n ((uni F b G (i + 1) : Nat) : Int) ((i + 1 : Nat) : Int)
  rw [hs i n hi]
  have e : uni F b G (i + 1) = if b i = true then uni F b G i ||| G i else uni F b G i := rfl
  have h1 := uni_lt (b := b) hF i (fun y hy => hG y (by omega))
  have h2 := hG i hi
  rw [e]
  cases b i
  · rfl
  · rw [if_pos rfl, if_pos rfl, aor_nat (by omega) (by omega)]; rfl
/-- a turn -/
theorem turn_eq {N i : Nat} {G : Nat → Nat} (hN : N ≤ 8) (hg : ∀ y x, g y x = true → y < N) (hG : ∀ y x, y < N → (G y).testBit x = (decide (x < 8) && g y x)) : uni (msk (stg g c i) 8) (fun y => stg g c i y && !lk g c i y) G N = msk (stg g c (i + 1)) 8 := by
  refine Nat.eq_of_testBit_eq fun x => ?_
  rw [uni_bit, msk_bit, msk_bit]
  by_cases hx : x < 8
  · rw [decide_eq_true hx, Bool.true_and, Bool.true_and]
    refine bool_ext ?_
    rw [Bool.or_eq_true, exb_iff, stg_iff]
    constructor
    · rintro (h | ⟨y, hy, h⟩)
      · exact Or.inl h
      · rw [Bool.and_eq_true, Bool.and_eq_true, hG y x hy, Bool.and_eq_true] at h
        exact Or.inr ⟨y, by omega, h.1.1, h.2.2⟩
    · rintro (h | ⟨y, hy, h1, h2⟩)
      · exact Or.inl h
      · have hyN := hg y x h2
        cases hl : lk g c i y
        · refine Or.inr ⟨y, hyN, ?_⟩
          rw [h1, hl, hG y x hyN, decide_eq_true hx, h2]; rfl
        · left
          cases i with
          | zero => cases hl
          | succ j => exact (stg_iff j x).mpr (Or.inr ⟨y, hy, hl, h2⟩)
  · rw [decide_eq_false hx, Bool.false_and, Bool.false_and, Bool.false_or]
    refine bool_ext ?_
    rw [exb_iff]
    constructor
    · rintro ⟨y, hy, h⟩
      rw [hG y x hy, decide_eq_false hx, Bool.false_and, Bool.and_false] at h
      cases h
    · intro h; cases h
/-- all turns: they end where nothing is new, or behind eight -/
theorem turns_loop {α : Type} (l : Nat → Int → Int → Int → Option α) (kk : Int → Option α) (hc : c < 8) (he8 : ∀ n a b, l (n + 1) a b 8 = kk a) (heq : ∀ n a (i : Nat), i < 8 → l (n + 1) a a (i : Int) = kk a) (hs : ∀ n (i : Nat), i < 8 → msk (lk g c i) 8 ≠ msk (stg g c i) 8 → l (n + 1) ((msk (stg g c i) 8 : Nat) : Int) ((msk (lk g c i) 8 : Nat) : Int) (i : Int) = l n ((msk (stg g c (i + 1)) 8 : Nat) : Int) ((msk (stg g c i) 8 : Nat) : Int) ((i : Int) + 1)) : l FU ((2 ^ c : Nat) : Int) 0 0 = kk ((msk (stg g c 8) 8 : Nat) : Int) := by
  have h0 : msk (stg g c 0) 8 = 2 ^ c := by
    refine (msk_eq fun x => ?_).symm
    show (2 ^ c).testBit x = (decide (x < 8) && decide (x = c))
    by_cases h : x = c
    · subst h; rw [Nat.testBit_two_pow_self, decide_eq_true hc, decide_eq_true rfl]; rfl
    · rw [Nat.testBit_two_pow_of_ne (fun e => h e.symm), decide_eq_false h, Bool.and_false]
  have h1 : msk (lk g c 0) 8 = 0 := by
    refine (msk_eq fun x => ?_).symm
    show (0 : Nat).testBit x = (decide (x < 8) && false)
    rw [Bool.and_false, Nat.zero_testBit]
  have hsame : ∀ i, msk (lk g c (i + 1)) 8 = msk (stg g c (i + 1)) 8 → i ≤ 8 → msk (stg g c (i + 1)) 8 = msk (stg g c 8) 8 := by
    intro i h hi
    refine msk_cong fun x hx => ?_
    have hst : ∀ y, y < 8 → stg g c (i + 1) y = stg g c i y := by
      intro y hy
      have := congrArg (fun s => s.testBit y) h
      simp only [msk_bit] at this
      rw [decide_eq_true hy, Bool.true_and, Bool.true_and] at this
      exact this.symm
    have h2 := stg_stay hst (8 - i) x hx
    rw [show i + (8 - i) = 8 by omega] at h2
    rw [h2, hst x hx]
  rw [← h0, show (0 : Int) = ((msk (lk g c 0) 8 : Nat) : Int) by rw [h1]; rfl]
  have e0 : ((msk (lk g c 0) 8 : Nat) : Int) = ((0 : Nat) : Int) := by rw [h1]
  have key := for_until (fun i n => l n ((msk (stg g c i) 8 : Nat) : Int) ((msk (lk g c i) 8 : Nat) : Int) (i : Int)) (y := kk ((msk (stg g c 8) 8 : Nat) : Int)) (fst (fun i => decide (msk (lk g c i) 8 = msk (stg g c i) 8)) 8) ?_ ?_ ?_
  · have e2 : l FU ((msk (stg g c 0) 8 : Nat) : Int) ((msk (lk g c 0) 8 : Nat) : Int) ((0 : Nat) : Int) = kk ((msk (stg g c 8) 8 : Nat) : Int) := key
    rw [← e0] at e2
    exact e2
  · intro i n hi
    have h2 := fst_le (fun i => decide (msk (lk g c i) 8 = msk (stg g c i) 8)) 8
    have h3 := of_decide_eq_false (fst_no (fun i => decide (msk (lk g c i) 8 = msk (stg g c i) 8)) 8 i hi)
    exact hs n i (by omega) h3
  · intro n
    by_cases hq : fst (fun i => decide (msk (lk g c i) 8 = msk (stg g c i) 8)) 8 < 8
    · have h3 := of_decide_eq_true (fst_yes (fun i => decide (msk (lk g c i) 8 = msk (stg g c i) 8)) 8 hq)
      generalize fst (fun i => decide (msk (lk g c i) 8 = msk (stg g c i) 8)) 8 = q at hq h3 ⊢
      show l (n + 1) ((msk (stg g c q) 8 : Nat) : Int) ((msk (lk g c q) 8 : Nat) : Int) (q : Int) = _
      rw [h3, heq n _ q hq]
      cases q with
      | zero =>
        rw [h1, h0] at h3
        exact absurd h3 (Nat.ne_of_lt (Nat.two_pow_pos c))
      | succ q => rw [hsame q h3 (by omega)]
    · have h2 := fst_le (fun i => decide (msk (lk g c i) 8 = msk (stg g c i) 8)) 8
      rw [show fst (fun i => decide (msk (lk g c i) 8 = msk (stg g c i) 8)) 8 = 8 by omega]
      exact he8 n _ _
  · have h2 := fst_le (fun i => decide (msk (lk g c i) 8 = msk (stg g c i) 8)) 8
    omega
end Clo
