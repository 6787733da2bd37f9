/-! ===== the text, token by token: what is told of a place ===== -/
def isL (b : Int) : Bool := decide (97 ≤ b) && decide (b ≤ 122)
def isD (b : Int) : Bool := decide (48 ≤ b) && decide (b ≤ 57)
def spq (B : Nat → Int) (n p : Nat) : Nat := p + fst (fun i => !decide (B (p + i) = 32)) (n - p)
def lsq (B : Nat → Int) (n p : Nat) : Nat := fst (fun i => !isL (B (p + i))) (n - p)
def dsq (B : Nat → Int) (n p : Nat) : Nat := fst (fun i => !isD (B (p + i))) (n - p)
/-- a row of digits as a number -/
def dgs (f : Nat → Int) (m : Int) : Nat → Int
  | 0 => 0
  | i + 1 => dgs f m i * m + f i
def kS (B : Nat → Int) (n p : Nat) : Nat := if n ≤ p then 0 else if isL (B p) = true then (if lsq B n p ≤ 8 then 1 else 4) else if isD (B p) = true then (if dsq B n p ≤ 3 then 2 else 4) else if B p = 59 then 3 else 4
def kE (B : Nat → Int) (n p : Nat) : Nat := if n ≤ p then p else if isL (B p) = true then p + lsq B n p else if isD (B p) = true then p + dsq B n p else p + 1
def kX (B : Nat → Int) (n p : Nat) : Nat := spq B n (kE B n p)
def kW (B : Nat → Int) (n p : Nat) : Nat := (dgs (fun i => B (p + i) - 97 + 1) 32 (lsq B n p)).toNat
def kN (B : Nat → Int) (n p : Nat) : Nat := (dgs (fun i => B (p + i) - 48) 10 (dsq B n p)).toNat
theorem isL_iff {b : Int} : isL b = true ↔ 97 ≤ b ∧ b ≤ 122 := by unfold isL; rw [Bool.and_eq_true, decide_eq_true_eq, decide_eq_true_eq]
theorem isD_iff {b : Int} : isD b = true ↔ 48 ≤ b ∧ b ≤ 57 := by unfold isD; rw [Bool.and_eq_true, decide_eq_true_eq, decide_eq_true_eq]
section Tok
variable {B : Nat → Int} {n p : Nat} {T : Nat} {M : aM}
theorem spq_le (hp : p ≤ n) : p ≤ spq B n p ∧ spq B n p ≤ n := by
  unfold spq
  have := fst_le (fun i => !decide (B (p + i) = 32)) (n - p)
  omega
theorem lsq_le : lsq B n p ≤ n - p := fst_le _ _
theorem dsq_le : dsq B n p ≤ n - p := fst_le _ _
theorem lsq_pos (hp : p < n) (h : isL (B p) = true) : 0 < lsq B n p := by
  rcases Nat.eq_zero_or_pos (lsq B n p) with e | e
  · have h1 := fst_yes (fun i => !isL (B (p + i))) (n - p) (by have : lsq B n p = fst (fun i => !isL (B (p + i))) (n - p) := rfl; omega)
    have e2 : fst (fun i => !isL (B (p + i))) (n - p) = 0 := e
    rw [e2] at h1
    simp only [Nat.add_zero] at h1
    rw [h] at h1; cases h1
  · exact e
theorem dsq_pos (hp : p < n) (h : isD (B p) = true) : 0 < dsq B n p := by
  rcases Nat.eq_zero_or_pos (dsq B n p) with e | e
  · have h1 := fst_yes (fun i => !isD (B (p + i))) (n - p) (by have : dsq B n p = fst (fun i => !isD (B (p + i))) (n - p) := rfl; omega)
    have e2 : fst (fun i => !isD (B (p + i))) (n - p) = 0 := e
    rw [e2] at h1
    simp only [Nat.add_zero] at h1
    rw [h] at h1; cases h1
  · exact e
theorem lsq_let {i : Nat} (h : i < lsq B n p) : 97 ≤ B (p + i) ∧ B (p + i) ≤ 122 := by
  have h1 := fst_no (fun i => !isL (B (p + i))) (n - p) i h
  cases hq : isL (B (p + i))
  · rw [hq] at h1; cases h1
  · exact isL_iff.mp hq
theorem dsq_dig {i : Nat} (h : i < dsq B n p) : 48 ≤ B (p + i) ∧ B (p + i) ≤ 57 := by
  have h1 := fst_no (fun i => !isD (B (p + i))) (n - p) i h
  cases hq : isD (B (p + i))
  · rw [hq] at h1; cases h1
  · exact isD_iff.mp hq
theorem kE_le (hp : p ≤ n) : kE B n p ≤ n ∧ (p < n → p < kE B n p) := by
  unfold kE
  have h1 := lsq_le (B := B) (n := n) (p := p)
  have h2 := dsq_le (B := B) (n := n) (p := p)
  split
  · omega
  · split
    · rename_i h3 h4
      have := lsq_pos (n := n) (by omega) h4
      omega
    · split
      · rename_i h3 h4 h5
        have := dsq_pos (n := n) (by omega) h5
        omega
      · omega
theorem kX_le (hp : p ≤ n) : kX B n p ≤ n ∧ (p < n → p < kX B n p) := by
  have h1 := kE_le (B := B) hp
  have h2 := spq_le (B := B) h1.1
  unfold kX
  exact ⟨h2.2, fun h => by have := h1.2 h; omega⟩
theorem kS_lt (B : Nat → Int) (n p : Nat) : kS B n p < 5 := by
  unfold kS
  split
  · decide
  · split
    · split <;> decide
    · split
      · split <;> decide
      · split <;> decide
theorem kS_end : kS B n p = 0 ↔ n ≤ p := by
  unfold kS
  constructor
  · intro h
    by_cases h1 : n ≤ p
    · exact h1
    · rw [if_neg h1] at h
      split at h
      · split at h <;> cases h
      · split at h
        · split at h <;> cases h
        · split at h <;> cases h
  · intro h; rw [if_pos h]
theorem kS_word (h : kS B n p = 1) : p < n ∧ isL (B p) = true ∧ lsq B n p ≤ 8 ∧ kE B n p = p + lsq B n p := by
  have h0 : ¬ n ≤ p := fun e => by rw [kS_end.mpr e] at h; cases h
  unfold kS at h
  rw [if_neg h0] at h
  by_cases h1 : isL (B p) = true
  · rw [if_pos h1] at h
    by_cases h2 : lsq B n p ≤ 8
    · exact ⟨by omega, h1, h2, by unfold kE; rw [if_neg h0, if_pos h1]⟩
    · rw [if_neg h2] at h; cases h
  · rw [if_neg h1] at h
    split at h
    · split at h <;> cases h
    · split at h <;> cases h
theorem kS_whole (h : kS B n p = 2) : p < n ∧ isD (B p) = true ∧ dsq B n p ≤ 3 ∧ kE B n p = p + dsq B n p := by
  have h0 : ¬ n ≤ p := fun e => by rw [kS_end.mpr e] at h; cases h
  unfold kS at h
  rw [if_neg h0] at h
  by_cases h1 : isL (B p) = true
  · rw [if_pos h1] at h
    split at h <;> cases h
  · rw [if_neg h1] at h
    by_cases h2 : isD (B p) = true
    · rw [if_pos h2] at h
      by_cases h3 : dsq B n p ≤ 3
      · exact ⟨by omega, h2, h3, by unfold kE; rw [if_neg h0, if_neg h1, if_pos h2]⟩
      · rw [if_neg h3] at h; cases h
    · rw [if_neg h2] at h
      split at h <;> cases h
theorem dgs_lt {f : Nat → Int} {m : Nat} (hm : 0 < m) : ∀ i, (∀ k, k < i → 0 ≤ f k ∧ f k < (m : Int)) → 0 ≤ dgs f (m : Int) i ∧ dgs f (m : Int) i < ((m ^ i : Nat) : Int)
  | 0, _ => ⟨Int.le_refl _, by show (0 : Int) < ((m ^ 0 : Nat) : Int); rw [Nat.pow_zero]; decide⟩
  | i + 1, h => by
    obtain ⟨h1, h2⟩ := dgs_lt hm i (fun k hk => h k (by omega))
    obtain ⟨h3, h4⟩ := h i (by omega)
    show 0 ≤ dgs f (m : Int) i * (m : Int) + f i ∧ dgs f (m : Int) i * (m : Int) + f i < ((m ^ (i + 1) : Nat) : Int)
    have h5 : 0 ≤ dgs f (m : Int) i * (m : Int) := Int.mul_nonneg h1 (by omega)
    have h6 : (dgs f (m : Int) i + 1) * (m : Int) ≤ ((m ^ i : Nat) : Int) * (m : Int) := Int.mul_le_mul_of_nonneg_right (by omega) (by omega)
    rw [Int.add_mul, Int.one_mul] at h6
    have h7 : ((m ^ (i + 1) : Nat) : Int) = ((m ^ i : Nat) : Int) * (m : Int) := by rw [Nat.pow_succ, Int.natCast_mul]
    omega
theorem dgs_inj {f g : Nat → Int} : ∀ i j, (∀ k, k < i → 1 ≤ f k ∧ f k ≤ 26) → (∀ k, k < j → 1 ≤ g k ∧ g k ≤ 26) → dgs f 32 i = dgs g 32 j → i = j ∧ ∀ k, k < i → f k = g k
  | 0, 0, _, _, _ => ⟨rfl, fun k hk => absurd hk (Nat.not_lt_zero k)⟩
  | 0, j + 1, _, hg, e => by
    have h1 := (dgs_lt (f := g) (m := 32) (by decide) j (fun k hk => by have := hg k (by omega); omega)).1
    have h2 := hg j (by omega)
    have e2 : (0 : Int) = dgs g 32 j * 32 + g j := e
    have h3 : (0 : Int) ≤ dgs g 32 j := h1
    omega
  | i + 1, 0, hf, _, e => by
    have h1 := (dgs_lt (f := f) (m := 32) (by decide) i (fun k hk => by have := hf k (by omega); omega)).1
    have h2 := hf i (by omega)
    have e2 : dgs f 32 i * 32 + f i = (0 : Int) := e
    have h3 : (0 : Int) ≤ dgs f 32 i := h1
    omega
  | i + 1, j + 1, hf, hg, e => by
    have e2 : dgs f 32 i * 32 + f i = dgs g 32 j * 32 + g j := e
    have h1 := hf i (by omega)
    have h2 := hg j (by omega)
    have e3 : dgs f 32 i = dgs g 32 j := by omega
    obtain ⟨h3, h4⟩ := dgs_inj i j (fun k hk => hf k (by omega)) (fun k hk => hg k (by omega)) e3
    subst h3
    refine ⟨rfl, fun k hk => ?_⟩
    by_cases hk2 : k = i
    · subst hk2; omega
    · exact h4 k (by omega)
theorem dgs_cong {f g : Nat → Int} {m : Int} : ∀ i, (∀ k, k < i → f k = g k) → dgs f m i = dgs g m i
  | 0, _ => rfl
  | i + 1, h => by
    show dgs f m i * m + f i = dgs g m i * m + g i
    rw [dgs_cong i (fun k hk => h k (by omega)), h i (by omega)]
/-- the texts as rows of digits -/
def txl (k : Nat) : Nat := (atx.getD k []).length
def txd (k i : Nat) : Int := (((atx.getD k []).getD i 0 : Nat) : Int) - 97 + 1
def pkd (k : Nat) : Nat := (dgs (txd k) 32 (txl k)).toNat
theorem tx_ok : ∀ k, k < 48 → txl k ≤ 8 ∧ 1 ≤ txl k ∧ ∀ i, i < 8 → i < txl k → 1 ≤ txd k i ∧ txd k i ≤ 26 := by decide +kernel
theorem tx_dig {k : Nat} (hk : k < 48) {i : Nat} (hi : i < txl k) : 1 ≤ txd k i ∧ txd k i ≤ 26 := (tx_ok k hk).2.2 i (by have := (tx_ok k hk).1; omega) hi
theorem kW_pos (h : kS B n p = 1) : ((kW B n p : Nat) : Int) = dgs (fun i => B (p + i) - 97 + 1) 32 (lsq B n p) ∧ 1 ≤ kW B n p ∧ kW B n p < 1099511627776 := by
  obtain ⟨h1, h2, h3, -⟩ := kS_word h
  have h4 := lsq_pos h1 h2
  have hd : ∀ k, k < lsq B n p → 1 ≤ B (p + k) - 97 + 1 ∧ B (p + k) - 97 + 1 ≤ 26 := fun k hk => by have := lsq_let hk; omega
  obtain ⟨h5, h6⟩ := dgs_lt (f := fun i => B (p + i) - 97 + 1) (m := 32) (by decide) (lsq B n p) (fun k hk => by have := hd k hk; exact ⟨by omega, by show B (p + k) - 97 + 1 < 32; omega⟩)
  have h7 : (32 : Nat) ^ lsq B n p ≤ 32 ^ 8 := Nat.pow_le_pow_right (by decide) h3
  have h8 : 1 ≤ dgs (fun i => B (p + i) - 97 + 1) 32 (lsq B n p) := by
    obtain ⟨m, hm⟩ : ∃ m, lsq B n p = m + 1 := ⟨lsq B n p - 1, by omega⟩
    have h9 := (dgs_lt (f := fun i => B (p + i) - 97 + 1) (m := 32) (by decide) m (fun k hk => by have := hd k (by omega); exact ⟨by omega, by show B (p + k) - 97 + 1 < 32; omega⟩)).1
    have h10 := hd m (by omega)
    have h11 : (0 : Int) ≤ dgs (fun i => B (p + i) - 97 + 1) 32 m := h9
    rw [hm]
    show 1 ≤ dgs (fun i => B (p + i) - 97 + 1) 32 m * 32 + (B (p + m) - 97 + 1)
    omega
  have h12 : dgs (fun i => B (p + i) - 97 + 1) 32 (lsq B n p) < ((32 ^ lsq B n p : Nat) : Int) := h6
  unfold kW
  have e8 : (32 : Nat) ^ 8 = 1099511627776 := by decide
  omega
theorem pkd_ok {k : Nat} (hk : k < 48) : ((pkd k : Nat) : Int) = dgs (txd k) 32 (txl k) := by
  have h1 := (dgs_lt (f := txd k) (m := 32) (by decide) (txl k) (fun i hi => by have := tx_dig hk hi; exact ⟨by omega, by show txd k i < 32; omega⟩)).1
  have h2 : (0 : Int) ≤ dgs (txd k) 32 (txl k) := h1
  unfold pkd
  omega
/-- a word is a text just if their numbers are alike -/
theorem word_tx (h : kS B n p = 1) {k : Nat} (hk : k < 48) : kW B n p = pkd k ↔ lsq B n p = txl k ∧ ∀ i, i < txl k → B (p + i) = (((atx.getD k []).getD i 0 : Nat) : Int) := by
  have h1 := (kW_pos h).1
  have h2 := pkd_ok hk
  have hd : ∀ k, k < lsq B n p → 1 ≤ B (p + k) - 97 + 1 ∧ B (p + k) - 97 + 1 ≤ 26 := fun k hk => by have := lsq_let hk; omega
  constructor
  · intro e
    have e2 : dgs (fun i => B (p + i) - 97 + 1) 32 (lsq B n p) = dgs (txd k) 32 (txl k) := by omega
    obtain ⟨h3, h4⟩ := dgs_inj _ _ hd (fun i hi => tx_dig hk hi) e2
    refine ⟨h3, fun i hi => ?_⟩
    have h5 : B (p + i) - 97 + 1 = (((atx.getD k []).getD i 0 : Nat) : Int) - 97 + 1 := h4 i (by omega)
    omega
  · rintro ⟨h3, h4⟩
    have e2 : dgs (fun i => B (p + i) - 97 + 1) 32 (lsq B n p) = dgs (txd k) 32 (txl k) := by
      rw [h3]
      exact dgs_cong _ fun i hi => by show B (p + i) - 97 + 1 = txd k i; rw [h4 i hi]; rfl
    omega
end Tok
