/-! ===== the well as told, by numbers: A 0 counts (well, caves, ways, voices, folk, echoes, unsures, talks), A 1 loud errs drought mouths wet heard, A 2 one, A 3 two, A 4 length, A 5 kind, A 6 voice at, A 7 folk at, A 8 echo at, A 9 echo, A 10 unsure, A 11 talk one, A 12 talk two ===== -/
abbrev aA : Type := Nat → Nat → Nat
def cut6 (s : Nat) : Prop := cntp s.testBit 10 ≤ 6
def WF (A : aA) : Prop :=
  (A 0 0 ≤ 1 ∧ A 0 1 ≤ 8 ∧ A 0 2 ≤ 10 ∧ A 0 3 ≤ 3 ∧ A 0 4 ≤ 4 ∧ A 0 5 ≤ 4 ∧ A 0 6 ≤ 4 ∧ A 0 7 ≤ 5) ∧
  (A 1 0 ≤ 99 ∧ A 1 1 ≤ 100 ∧ A 1 2 ≤ 100 ∧ A 1 3 < 256 ∧ A 1 4 < 2 ^ A 0 2 ∧ cut6 (A 1 4) ∧ A 1 5 < 32) ∧
  (∀ k, k < A 0 2 → A 2 k < A 3 k ∧ A 3 k < A 0 1 ∧ 1 ≤ A 4 k ∧ A 4 k ≤ 20) ∧
  (∀ k j, k < A 0 2 → j < A 0 2 → A 2 k = A 2 j → A 3 k = A 3 j → k = j) ∧
  (∀ k, k < A 0 3 → A 5 k < 4 ∧ A 6 k < A 0 1) ∧ (∀ k, k < A 0 4 → A 7 k < A 0 1) ∧
  (∀ k, k < A 0 5 → A 8 k < A 0 1 ∧ A 9 k ≤ 400) ∧ (∀ k, k < A 0 6 → A 10 k < A 0 2 ∧ ∀ j, j < A 0 6 → A 10 k = A 10 j → k = j) ∧
  (∀ k, k < A 0 7 → A 11 k < A 0 1 ∧ A 12 k < A 0 1) ∧
  (A 0 0 = 0 → (∀ i, A 0 i = 0) ∧ ∀ i, A 1 i = 0) ∧ (A 0 0 = 1 → 1 ≤ A 0 1)
/-- the way between two caves; the number of ways if there is none -/
def wyp (A : aA) (a b k : Nat) : Bool := (decide (A 2 k = a) && decide (A 3 k = b)) || (decide (A 2 k = b) && decide (A 3 k = a))
def wy (A : aA) (a b : Nat) : Nat := fst (wyp A a b) (A 0 2)
theorem wyp_jn {A : aA} {a b k : Nat} : wyp A a b k = true ↔ jn (A 2) (A 3) k a b := by
  unfold wyp jn
  simp only [Bool.or_eq_true, Bool.and_eq_true, decide_eq_true_eq]
theorem wyp_symm (A : aA) (a b k : Nat) : wyp A a b k = wyp A b a k := by unfold wyp; rw [Bool.or_comm]
theorem wy_symm (A : aA) (a b : Nat) : wy A a b = wy A b a := fst_cong fun k _ => wyp_symm A a b k
theorem wy_le (A : aA) (a b : Nat) : wy A a b ≤ A 0 2 := fst_le _ _
theorem wy_jn {A : aA} {a b : Nat} (h : wy A a b < A 0 2) : jn (A 2) (A 3) (wy A a b) a b := wyp_jn.mp (fst_yes _ _ h)
section Abs
variable {A : aA} {dr : Nat → Bool}
theorem jn_one (hA : WF A) {k j a b : Nat} (hk : k < A 0 2) (hj : j < A 0 2) (h1 : jn (A 2) (A 3) k a b) (h2 : jn (A 2) (A 3) j a b) : k = j := by
  obtain ⟨-, -, h3, h4, -⟩ := hA
  have g1 := h3 k hk
  have g2 := h3 j hj
  rcases h1 with ⟨e1, e2⟩ | ⟨e1, e2⟩ <;> rcases h2 with ⟨f1, f2⟩ | ⟨f1, f2⟩
  · exact h4 k j hk hj (by omega) (by omega)
  · omega
  · omega
  · exact h4 k j hk hj (by omega) (by omega)
theorem wy_eq (hA : WF A) {k a b : Nat} (hk : k < A 0 2) (h : jn (A 2) (A 3) k a b) : wy A a b = k := by
  refine fst_eq hk (wyp_jn.mpr h) fun j hj => ?_
  cases hp : wyp A a b j
  · rfl
  · have := jn_one hA hk (by omega) h (wyp_jn.mp hp); omega
theorem jn_lt (hA : WF A) {k a b : Nat} (hk : k < A 0 2) (h : jn (A 2) (A 3) k a b) : a < A 0 1 ∧ b < A 0 1 ∧ a ≠ b := by
  have g1 := hA.2.2.1 k hk
  rcases h with ⟨e1, e2⟩ | ⟨e1, e2⟩ <;> omega
theorem wy_lt (hA : WF A) {a b : Nat} (h : wy A a b < A 0 2) : a < A 0 1 ∧ b < A 0 1 ∧ a ≠ b := jn_lt hA h (wy_jn h)
/-- one step from cave to cave -/
def adj (A : aA) (dr : Nat → Bool) (a b : Nat) : Bool := decide (wy A a b < A 0 2) && dr (wy A a b)
theorem adj_symm (a b : Nat) : adj A dr a b = adj A dr b a := by unfold adj; rw [wy_symm]
theorem adj_lt (hA : WF A) {a b : Nat} (h : adj A dr a b = true) : a < A 0 1 ∧ b < A 0 1 ∧ a ≠ b := by
  unfold adj at h
  rw [Bool.and_eq_true, decide_eq_true_eq] at h
  exact wy_lt hA h.1
theorem adj_jn (hA : WF A) {k a b : Nat} (hk : k < A 0 2) (hd : dr k = true) (h : jn (A 2) (A 3) k a b) : adj A dr a b = true := by
  unfold adj
  rw [wy_eq hA hk h, hd, decide_eq_true hk]; rfl
def nr (A : aA) (dr : Nat → Bool) (c : Nat) : Nat := msk (adj A dr c) 8
theorem nr_bit (hA : WF A) (c x : Nat) : (nr A dr c).testBit x = adj A dr c x := by
  unfold nr
  rw [msk_bit]
  by_cases h : x < 8
  · rw [decide_eq_true h, Bool.true_and]
  · rw [decide_eq_false h, Bool.false_and]
    cases hp : adj A dr c x
    · rfl
    · have := adj_lt hA hp; have := hA.1.2.1; omega
theorem nr_lt (A : aA) (dr : Nat → Bool) (c : Nat) : nr A dr c < 256 := msk_lt _ 8
/-- the square of distances; 9999: too far -/
def d0 (A : aA) (dr : Nat → Bool) (a b : Nat) : Nat := if a = b then 0 else if adj A dr a b then A 4 (wy A a b) else 9999
def dst (A : aA) (dr : Nat → Bool) : Nat → Nat → Nat := fwN (d0 A dr) (A 0 1)
theorem WF.len (hA : WF A) : ∀ k, k < A 0 2 → 0 < A 4 k := fun k hk => (hA.2.2.1 k hk).2.2.1
theorem WF.len20 (hA : WF A) : ∀ k, k < A 0 2 → 0 < A 4 k ∧ A 4 k ≤ 20 := fun k hk => (hA.2.2.1 k hk).2.2
theorem WF.ends (hA : WF A) : ∀ k, k < A 0 2 → A 2 k < A 0 1 ∧ A 3 k < A 0 1 := fun k hk => by have := hA.2.2.1 k hk; omega
theorem dst_isQ (hA : WF A) (dr : Nat → Bool) : isQ (A 0 2) (A 2) (A 3) (A 4) dr 9999 (dst A dr) := by
  intro a
  refine fw_isR (d := d0 A dr) ?_ ?_ ?_ ?_ hA.ends a
  · intro a; exact if_pos rfl
  · intro a b
    unfold d0
    split
    · omega
    · split
      · rename_i h
        unfold adj at h
        rw [Bool.and_eq_true, decide_eq_true_eq] at h
        have := hA.len20 _ h.1; omega
      · omega
  · intro k hk hd a b h
    have h1 := jn_lt hA hk h
    unfold d0
    rw [if_neg h1.2.2, if_pos (adj_jn hA hk hd h), wy_eq hA hk h]
    omega
  · intro a b hab hf
    unfold d0 at hf ⊢
    rw [if_neg hab] at hf ⊢
    by_cases h : adj A dr a b = true
    · rw [if_pos h]
      unfold adj at h
      rw [Bool.and_eq_true, decide_eq_true_eq] at h
      exact ⟨wy A a b, h.1, h.2, wy_jn h.1, Nat.le_refl _⟩
    · rw [if_neg h] at hf; omega
theorem dst_self (hA : WF A) (a : Nat) : dst A dr a a = 0 := (dst_isQ hA dr a).1.1
theorem dst_le (hA : WF A) (a b : Nat) : dst A dr a b ≤ 9999 := (dst_isQ hA dr a).1.2.1 b
theorem dst_140 (hA : WF A) {a b : Nat} (ha : a < A 0 1) (h : dst A dr a b < 9999) : dst A dr a b ≤ 140 := isR_140 hA.ends hA.1.2.1 ha hA.len20 (dst_isQ hA dr a) h
theorem dst_symm (hA : WF A) (a b : Nat) : dst A dr a b = dst A dr b a := isQ_symm (dst_isQ hA dr) hA.len a b
theorem dst_out (hA : WF A) {a b : Nat} (ha : a < A 0 1) (hb : A 0 1 ≤ b) : dst A dr a b = 9999 := isR_out hA.ends ha (dst_isQ hA dr a) hb
/-- as the class tells it -/
def cl (n : Nat) : Nat := if n < 9999 then n else 1000000
theorem cl_row (hA : WF A) {c : Nat} (hc : c < A 0 1) {V : Nat → Nat} (hV : isR (A 0 2) (A 2) (A 3) (A 4) dr 1000000 c V) (t : Nat) : V t = cl (dst A dr c t) := by
  have h1 := reF_isR (G := 9999) hA.ends hA.1.2.1 hc (by decide) (by decide) hA.len20 hV
  have h2 := isR_one hA.len h1 (dst_isQ hA dr c)
  have h3 : reF 1000000 9999 V t = dst A dr c t := congrFun h2 t
  have h4 : V t ≤ 1000000 := hV.1.2.1 t
  have h5 : V t < 1000000 → V t ≤ 140 := fun h => isR_140 hA.ends hA.1.2.1 hc hA.len20 hV h
  unfold reF at h3
  unfold cl
  rw [← h3]
  by_cases h6 : V t < 1000000
  · rw [if_pos h6, if_pos (by have := h5 h6; omega)]
  · rw [if_neg h6, if_neg (by omega)]; omega
end Abs
