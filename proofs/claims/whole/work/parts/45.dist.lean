/-! ===== how far: rows of distances, told by what they keep; there is just one ===== -/
section Dist
variable {nw : Nat} {one two len : Nat → Nat} {dr : Nat → Bool} {F : Nat} {c : Nat}
def jn (one two : Nat → Nat) (k a b : Nat) : Prop := (one k = a ∧ two k = b) ∨ (one k = b ∧ two k = a)
theorem jn_symm {k a b : Nat} (h : jn one two k a b) : jn one two k b a := Or.symm h
/-- no way shortens the row -/
def stb (nw : Nat) (one two len : Nat → Nat) (dr : Nat → Bool) (D : Nat → Nat) : Prop := ∀ k, k < nw → dr k = true → D (two k) ≤ D (one k) + len k ∧ D (one k) ≤ D (two k) + len k
/-- what is kept while a row is made -/
def rowing (nw : Nat) (one two len : Nat → Nat) (dr : Nat → Bool) (F c : Nat) (D : Nat → Nat) : Prop := D c = 0 ∧ (∀ t, D t ≤ F) ∧ ∀ t, t ≠ c → D t < F → ∃ k x, k < nw ∧ dr k = true ∧ jn one two k x t ∧ D x + len k ≤ D t
def isR (nw : Nat) (one two len : Nat → Nat) (dr : Nat → Bool) (F c : Nat) (D : Nat → Nat) : Prop := rowing nw one two len dr F c D ∧ stb nw one two len dr D
theorem stb.jn {D : Nat → Nat} (h : stb nw one two len dr D) {k a b : Nat} (hk : k < nw) (hd : dr k = true) (hj : jn one two k a b) : D b ≤ D a + len k := by
  rcases hj with ⟨rfl, rfl⟩ | ⟨rfl, rfl⟩
  · exact (h k hk hd).1
  · exact (h k hk hd).2
theorem isR_le {V D : Nat → Nat} (hV : V c = 0) (hF : ∀ t, V t ≤ F) (hs : stb nw one two len dr V) (hl : ∀ k, k < nw → 0 < len k) (hD : rowing nw one two len dr F c D) : ∀ n t, D t = n → V t ≤ D t := by
  intro n
  induction n using Nat.strongRecOn with
  | ind n ih =>
    intro t ht
    by_cases h1 : t = c
    · rw [h1, hV]; exact Nat.zero_le _
    · by_cases h2 : D t < F
      · obtain ⟨k, x, hk, hd, hj, hx⟩ := hD.2.2 t h1 h2
        have h3 := ih (D x) (by have := hl k hk; omega) x rfl
        have h4 := hs.jn hk hd hj
        omega
      · have := hF t; omega
/-- there is but one row -/
theorem isR_one {D E : Nat → Nat} (hl : ∀ k, k < nw → 0 < len k) (hD : isR nw one two len dr F c D) (hE : isR nw one two len dr F c E) : D = E := by
  funext t
  have h1 := isR_le hD.1.1 hD.1.2.1 hD.2 hl hE.1 _ t rfl
  have h2 := isR_le hE.1.1 hE.1.2.1 hE.2 hl hD.1 _ t rfl
  omega
theorem isR_pred {D : Nat → Nat} (h : isR nw one two len dr F c D) {t : Nat} (h1 : t ≠ c) (h2 : D t < F) : ∃ k x, k < nw ∧ dr k = true ∧ jn one two k x t ∧ D x + len k = D t := by
  obtain ⟨k, x, hk, hd, hj, hx⟩ := h.1.2.2 t h1 h2
  have := h.2.jn hk hd hj
  exact ⟨k, x, hk, hd, hj, by omega⟩
/-- one shortening -/
def shrt (D : Nat → Nat) (a b l : Nat) : Nat → Nat := fun t => if t = b ∧ D a + l < D b then D a + l else D t
theorem shrt_le (D : Nat → Nat) (a b l t : Nat) : shrt D a b l t ≤ D t := by
  unfold shrt
  split
  · rename_i h; rw [h.1]; omega
  · omega
theorem shrt_row {D : Nat → Nat} (h : rowing nw one two len dr F c D) {k a b : Nat} (hk : k < nw) (hd : dr k = true) (hj : jn one two k a b) : rowing nw one two len dr F c (shrt D a b (len k)) := by
  obtain ⟨h1, h2, h3⟩ := h
  refine ⟨?_, fun t => ?_, fun t ht hf => ?_⟩
  · unfold shrt
    rw [if_neg]
    · exact h1
    · rintro ⟨rfl, h4⟩; rw [h1] at h4; omega
  · have := shrt_le D a b (len k) t; have := h2 t; omega
  · by_cases h4 : t = b ∧ D a + len k < D b
    · refine ⟨k, a, hk, hd, h4.1 ▸ hj, ?_⟩
      have h5 : shrt D a b (len k) t = D a + len k := if_pos h4
      have := shrt_le D a b (len k) a
      omega
    · have h5 : shrt D a b (len k) t = D t := if_neg h4
      rw [h5] at hf
      obtain ⟨k2, x, hk2, hd2, hj2, hx⟩ := h3 t ht hf
      refine ⟨k2, x, hk2, hd2, hj2, ?_⟩
      have := shrt_le D a b (len k2) x
      have := shrt_le D a b (len k) x
      omega
/-- a sum over the caves -/
def smD (D : Nat → Nat) : Nat → Nat
  | 0 => 0
  | n + 1 => smD D n + D n
theorem smD_lt {D E : Nat → Nat} (hle : ∀ t, E t ≤ D t) : ∀ n, smD E n ≤ smD D n ∧ ∀ b, b < n → E b < D b → smD E n < smD D n
  | 0 => ⟨Nat.le_refl _, fun b hb => absurd hb (Nat.not_lt_zero b)⟩
  | n + 1 => by
    obtain ⟨h1, h2⟩ := smD_lt hle n
    refine ⟨?_, fun b hb h => ?_⟩
    · show smD E n + E n ≤ smD D n + D n
      have := hle n; omega
    · show smD E n + E n < smD D n + D n
      have := hle n
      by_cases h3 : b = n
      · rw [h3] at h; omega
      · have := h2 b (by omega) h; omega
theorem isR_has {N : Nat} (hN : ∀ k, k < nw → one k < N ∧ two k < N) : ∀ n D, smD D N = n → rowing nw one two len dr F c D → ∃ E, isR nw one two len dr F c E := by
  intro n
  induction n using Nat.strongRecOn with
  | ind n ih =>
    intro D hn hD
    by_cases h : stb nw one two len dr D
    · exact ⟨D, hD, h⟩
    · have : ∃ k a b, k < nw ∧ dr k = true ∧ jn one two k a b ∧ D a + len k < D b := by
        apply Classical.byContradiction
        intro h2
        apply h
        intro k hk hd
        constructor
        · apply Nat.le_of_not_lt
          intro h3
          exact h2 ⟨k, one k, two k, hk, hd, Or.inl ⟨rfl, rfl⟩, h3⟩
        · apply Nat.le_of_not_lt
          intro h3
          exact h2 ⟨k, two k, one k, hk, hd, Or.inr ⟨rfl, rfl⟩, h3⟩
      obtain ⟨k, a, b, hk, hd, hj, h3⟩ := this
      have hb : b < N := by rcases hj with ⟨-, rfl⟩ | ⟨rfl, -⟩; exact (hN k hk).2; exact (hN k hk).1
      refine ih (smD (shrt D a b (len k)) N) ?_ _ rfl (shrt_row hD hk hd hj)
      rw [← hn]
      refine (smD_lt (fun t => shrt_le D a b (len k) t) N).2 b hb ?_
      have h5 : shrt D a b (len k) b = D a + len k := if_pos ⟨rfl, h3⟩
      omega
def row0 (F c : Nat) : Nat → Nat := fun t => if t = c then 0 else F
theorem row0_row : rowing nw one two len dr F c (row0 F c) := by
  refine ⟨if_pos rfl, fun t => ?_, fun t ht h => ?_⟩
  · unfold row0; split
    · exact Nat.zero_le _
    · exact Nat.le_refl _
  · unfold row0 at h; rw [if_neg ht] at h; exact absurd h (Nat.lt_irrefl _)
theorem isR_ex {N : Nat} (hN : ∀ k, k < nw → one k < N ∧ two k < N) : ∃ E, isR nw one two len dr F c E := isR_has hN _ _ rfl row0_row
/-- how many caves are nearer -/
def rnk (D : Nat → Nat) (t : Nat) : Nat → Nat
  | 0 => 0
  | n + 1 => rnk D t n + (if D n < D t then 1 else 0)
theorem rnk_lt {D : Nat → Nat} {x t : Nat} (h : D x < D t) : ∀ n, rnk D x n ≤ rnk D t n ∧ (x < n → rnk D x n < rnk D t n)
  | 0 => ⟨Nat.le_refl _, fun h => absurd h (Nat.not_lt_zero _)⟩
  | n + 1 => by
    obtain ⟨h1, h2⟩ := rnk_lt h n
    show rnk D x n + (if D n < D x then 1 else 0) ≤ rnk D t n + (if D n < D t then 1 else 0) ∧ (x < n + 1 → rnk D x n + (if D n < D x then 1 else 0) < rnk D t n + (if D n < D t then 1 else 0))
    constructor
    · split <;> split <;> omega
    · intro hx
      by_cases h3 : x = n
      · subst h3
        rw [if_neg (Nat.lt_irrefl _), if_pos h]; omega
      · have := h2 (by omega)
        split <;> split <;> omega
theorem rnk_le {D : Nat → Nat} {t : Nat} : ∀ n, rnk D t n ≤ n
  | 0 => Nat.le_refl _
  | n + 1 => by
    have := rnk_le (D := D) (t := t) n
    show rnk D t n + (if D n < D t then 1 else 0) ≤ n + 1
    split <;> omega
theorem rnk_lt_n {D : Nat → Nat} {t : Nat} : ∀ n, t < n → rnk D t n < n
  | 0, h => absurd h (Nat.not_lt_zero _)
  | n + 1, h => by
    show rnk D t n + (if D n < D t then 1 else 0) < n + 1
    by_cases h3 : t = n
    · subst h3
      rw [if_neg (Nat.lt_irrefl _)]
      have := rnk_le (D := D) (t := t) t; omega
    · have := rnk_lt_n (D := D) (t := t) n (by omega)
      split <;> omega
/-- finite ones are small -/
theorem isR_small {N : Nat} {D : Nat → Nat} (hN : ∀ k, k < nw → one k < N ∧ two k < N) (hl : ∀ k, k < nw → 0 < len k ∧ len k ≤ 20) (hD : isR nw one two len dr F c D) : ∀ n t, D t = n → D t < F → D t ≤ 20 * rnk D t N := by
  intro n
  induction n using Nat.strongRecOn with
  | ind n ih =>
    intro t ht hf
    by_cases h1 : t = c
    · rw [h1, hD.1.1]; exact Nat.zero_le _
    · obtain ⟨k, x, hk, hd, hj, hx⟩ := isR_pred hD h1 hf
      have h3 := hl k hk
      have h4 := ih (D x) (by omega) x rfl (by omega)
      have hxN : x < N := by rcases hj with ⟨rfl, -⟩ | ⟨-, rfl⟩; exact (hN k hk).1; exact (hN k hk).2
      have h5 := (rnk_lt (D := D) (x := x) (t := t) (by omega) N).2 hxN
      omega
theorem isR_140 {N : Nat} {D : Nat → Nat} (hN : ∀ k, k < nw → one k < N ∧ two k < N) (h8 : N ≤ 8) (hc : c < N) (hl : ∀ k, k < nw → 0 < len k ∧ len k ≤ 20) (hD : isR nw one two len dr F c D) {t : Nat} (hf : D t < F) : D t ≤ 140 := by
  have h1 := isR_small hN hl hD _ t rfl hf
  by_cases h2 : t = c
  · rw [h2, hD.1.1]; exact Nat.zero_le _
  · obtain ⟨k, x, hk, hd, hj, hx⟩ := isR_pred hD h2 hf
    have htN : t < N := by rcases hj with ⟨-, rfl⟩ | ⟨rfl, -⟩; exact (hN k hk).2; exact (hN k hk).1
    have := rnk_lt_n (D := D) N htN
    omega
theorem isR_out {N : Nat} {D : Nat → Nat} (hN : ∀ k, k < nw → one k < N ∧ two k < N) (hc : c < N) (hD : isR nw one two len dr F c D) {t : Nat} (ht : N ≤ t) : D t = F := by
  by_cases hf : D t < F
  · obtain ⟨k, x, hk, hd, hj, hx⟩ := isR_pred hD (show t ≠ c by omega) hf
    have htN : t < N := by rcases hj with ⟨-, rfl⟩ | ⟨rfl, -⟩; exact (hN k hk).2; exact (hN k hk).1
    omega
  · have := hD.1.2.1 t; omega
/-- another word for 'too far' -/
def reF (F G : Nat) (D : Nat → Nat) : Nat → Nat := fun t => if D t < F then D t else G
theorem reF_isR {N G : Nat} {D : Nat → Nat} (hN : ∀ k, k < nw → one k < N ∧ two k < N) (h8 : N ≤ 8) (hc : c < N) (hF : 160 < F) (hG : 160 ≤ G) (hl : ∀ k, k < nw → 0 < len k ∧ len k ≤ 20) (hD : isR nw one two len dr F c D) : isR nw one two len dr G c (reF F G D) := by
  have hs : ∀ t, D t < F → D t ≤ 140 := fun t h => isR_140 hN h8 hc hl hD h
  have hFF : ∀ t, ¬ D t < F → D t = F := fun t h => by have := hD.1.2.1 t; omega
  refine ⟨⟨?_, fun t => ?_, fun t ht hf => ?_⟩, fun k hk hd => ?_⟩
  · unfold reF; rw [hD.1.1, if_pos (by omega)]
  · unfold reF; split
    · rename_i h; have := hs t h; omega
    · omega
  · unfold reF at hf
    split at hf
    · rename_i h
      obtain ⟨k, x, hk, hd, hj, hx⟩ := isR_pred hD ht h
      refine ⟨k, x, hk, hd, hj, ?_⟩
      unfold reF; rw [if_pos (by omega), if_pos h]; omega
    · omega
  · have h1 := hD.2 k hk hd
    have h2 := hs (one k); have h3 := hs (two k)
    have h4 := hFF (one k); have h5 := hFF (two k)
    have h6 := hl k hk
    unfold reF
    constructor <;> split <;> split <;> omega
end Dist
