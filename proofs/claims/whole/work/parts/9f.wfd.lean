/-! ===== what is half told stays well told ===== -/
section Wfd
variable {B : Nat → Int} {n p : Nat} {A : aA}
theorem cntp_or (s k : Nat) : ∀ m, cntp (s ||| 2 ^ k).testBit m ≤ cntp s.testBit m + (if k < m then 1 else 0)
  | 0 => Nat.zero_le _
  | m + 1 => by
    have ih := cntp_or s k m
    show cntp (s ||| 2 ^ k).testBit m + (if (s ||| 2 ^ k).testBit m = true then 1 else 0) ≤ cntp s.testBit m + (if s.testBit m = true then 1 else 0) + (if k < m + 1 then 1 else 0)
    rw [Nat.testBit_or, Nat.testBit_two_pow]
    by_cases h : k = m
    · subst h
      rw [decide_eq_true rfl, Bool.or_true, if_pos (show k < k + 1 by omega)]
      rw [if_neg (show ¬ k < k by omega)] at ih
      cases s.testBit k
      · show cntp (s ||| 2 ^ k).testBit k + 1 ≤ cntp s.testBit k + 0 + 1; omega
      · show cntp (s ||| 2 ^ k).testBit k + 1 ≤ cntp s.testBit k + 1 + 1; omega
    · rw [decide_eq_false h, Bool.or_false]
      by_cases h2 : k < m
      · rw [if_pos h2] at ih
        rw [if_pos (show k < m + 1 by omega)]
        cases s.testBit m
        · show cntp (s ||| 2 ^ k).testBit m + 0 ≤ cntp s.testBit m + 0 + 1; omega
        · show cntp (s ||| 2 ^ k).testBit m + 1 ≤ cntp s.testBit m + 1 + 1; omega
      · rw [if_neg h2] at ih
        rw [if_neg (show ¬ k < m + 1 by omega)]
        cases s.testBit m
        · show cntp (s ||| 2 ^ k).testBit m + 0 ≤ cntp s.testBit m + 0 + 0; omega
        · show cntp (s ||| 2 ^ k).testBit m + 1 ≤ cntp s.testBit m + 1 + 0; omega
theorem cntp_16 {s : Nat} : cntp s.testBit 10 ≤ cntp s.testBit 16 := cntp_mono _ (by decide)
theorem or_lt_pow {s k m : Nat} (h : s < 2 ^ m) (hk : k < m) : s ||| 2 ^ k < 2 ^ m := Nat.or_lt_two_pow h (Nat.pow_lt_pow_right (by decide) hk)
theorem wf0 (h : WFd A) (h0 : A 0 0 = 0) {a b c : Nat} (ha : a ≤ 99) (hb : b ≤ 100) (hc : c ≤ 100) : WFd (L0 A a b c) := by
  obtain ⟨z1, z2⟩ := h.2.2.2.2.2.2.2.2.2.1 h0
  have e0 : L0 A a b c 0 0 = 1 := by simp [L0, inc, up2, z1]
  have e : ∀ i, i ≠ 0 → L0 A a b c 0 i = 0 := fun i hi => by simp [L0, inc, up2, z1, hi]
  have f0 : L0 A a b c 1 0 = a := by simp [L0, inc, up2]
  have f1 : L0 A a b c 1 1 = b := by simp [L0, inc, up2]
  have f2 : L0 A a b c 1 2 = c := by simp [L0, inc, up2]
  have f : ∀ i, 3 ≤ i → L0 A a b c 1 i = 0 := fun i hi => by
    have q0 : i ≠ 0 := by omega
    have q1 : i ≠ 1 := by omega
    have q2 : i ≠ 2 := by omega
    simp [L0, inc, up2, z2, q0, q1, q2]
  generalize L0 A a b c = A' at e0 e f0 f1 f2 f ⊢
  have g1 := e 1 (by decide); have g2 := e 2 (by decide); have g3 := e 3 (by decide); have g4 := e 4 (by decide); have g5 := e 5 (by decide); have g6 := e 6 (by decide); have g7 := e 7 (by decide); have g8 := e 8 (by decide)
  have k3 := f 3 (by decide); have k4 := f 4 (by decide); have k5 := f 5 (by decide)
  refine ⟨by omega, ⟨by omega, by omega, by omega, by omega, by rw [k4]; exact Nat.two_pow_pos _, ?_, by omega⟩, fun k hk => by omega, fun k j hk => by omega, fun k hk => by omega, fun k hk => by omega, fun k hk => by omega, fun k hk => by omega, fun k hk => by omega, fun hz => by omega, by omega, fun i hi => by omega⟩
  rw [k4]
  show cntp (0 : Nat).testBit 10 ≤ 6
  decide
/-- the count that a row goes by -/
def ctr (r : Nat) : Nat := [0, 0, 2, 2, 2, 3, 3, 4, 5, 5, 6, 7, 7, 8, 8, 8].getD r 0
/-- a line more -/
def APP (A A' : aA) (d : Nat → Nat) : Prop := A 0 0 = 1 ∧ (∀ i, i ≤ 8 → A' 0 i = A 0 i + d i) ∧ d 0 = 0 ∧ (∀ i, i ≤ 8 → d i ≤ 1) ∧ d 8 = d 1 + d 3 + d 4 ∧ (∀ r, 2 ≤ r → r ≤ 15 → ∀ k, k < A 0 (ctr r) → A' r k = A r k) ∧ A' 1 0 = A 1 0 ∧ A' 1 1 = A 1 1 ∧ A' 1 2 = A 1 2
theorem WFd.step {A A' : aA} {d : Nat → Nat} (h : WFd A) (hp : APP A A' d)
    (hb : A' 0 1 ≤ 8 ∧ A' 0 2 ≤ 10 ∧ A' 0 3 ≤ 3 ∧ A' 0 4 ≤ 4 ∧ A' 0 5 ≤ 4 ∧ A' 0 6 ≤ 4 ∧ A' 0 7 ≤ 5)
    (h3 : A' 1 3 < 256) (h4 : A' 1 4 < 2 ^ A' 0 2) (h4c : cut6 (A' 1 4)) (h5 : A' 1 5 < 32)
    (n2 : d 2 = 1 → A' 2 (A 0 2) < A' 3 (A 0 2) ∧ A' 3 (A 0 2) < A 0 1 ∧ 1 ≤ A' 4 (A 0 2) ∧ A' 4 (A 0 2) ≤ 20 ∧ ∀ k, k < A 0 2 → ¬ (A 2 k = A' 2 (A 0 2) ∧ A 3 k = A' 3 (A 0 2)))
    (n3 : d 3 = 1 → A' 5 (A 0 3) < 4 ∧ A' 6 (A 0 3) < A 0 1) (n4 : d 4 = 1 → A' 7 (A 0 4) < A 0 1)
    (n5 : d 5 = 1 → A' 8 (A 0 5) < A 0 1 ∧ A' 9 (A 0 5) ≤ 400) (n6 : d 6 = 1 → A' 10 (A 0 6) < A 0 2 ∧ ∀ k, k < A 0 6 → A 10 k ≠ A' 10 (A 0 6))
    (n7 : d 7 = 1 → A' 11 (A 0 7) < A 0 1 ∧ A' 12 (A 0 7) < A 0 1)
    (n8 : d 8 = 1 → (A' 14 (A 0 8) = 1 ∨ A' 14 (A 0 8) = 3 ∨ A' 14 (A 0 8) = 4) ∧ (A' 14 (A 0 8) = 1 → A' 15 (A 0 8) < A' 0 1)) : WFd A' := by
  obtain ⟨hA0, hc, hd0, hd, hd8, hr, r0, r1, r2⟩ := hp
  obtain ⟨a1, a2, a3, a4, a5, a6, a7, a8, a9, a10, a11, a12⟩ := h
  have c0 := hc 0 (by decide); have c1 := hc 1 (by decide); have c2 := hc 2 (by decide); have c3 := hc 3 (by decide); have c4 := hc 4 (by decide); have c5 := hc 5 (by decide); have c6 := hc 6 (by decide); have c7 := hc 7 (by decide); have c8 := hc 8 (by decide)
  have q2 := hd 2 (by decide); have q3 := hd 3 (by decide); have q4 := hd 4 (by decide); have q5 := hd 5 (by decide); have q6 := hd 6 (by decide); have q7 := hd 7 (by decide); have q8 := hd 8 (by decide)
  have x2 : ∀ k, k < A 0 2 → A' 2 k = A 2 k := hr 2 (by decide) (by decide)
  have x3 : ∀ k, k < A 0 2 → A' 3 k = A 3 k := hr 3 (by decide) (by decide)
  have x4 : ∀ k, k < A 0 2 → A' 4 k = A 4 k := hr 4 (by decide) (by decide)
  have x5 : ∀ k, k < A 0 3 → A' 5 k = A 5 k := hr 5 (by decide) (by decide)
  have x6 : ∀ k, k < A 0 3 → A' 6 k = A 6 k := hr 6 (by decide) (by decide)
  have x7 : ∀ k, k < A 0 4 → A' 7 k = A 7 k := hr 7 (by decide) (by decide)
  have x8 : ∀ k, k < A 0 5 → A' 8 k = A 8 k := hr 8 (by decide) (by decide)
  have x9 : ∀ k, k < A 0 5 → A' 9 k = A 9 k := hr 9 (by decide) (by decide)
  have x10 : ∀ k, k < A 0 6 → A' 10 k = A 10 k := hr 10 (by decide) (by decide)
  have x11 : ∀ k, k < A 0 7 → A' 11 k = A 11 k := hr 11 (by decide) (by decide)
  have x12 : ∀ k, k < A 0 7 → A' 12 k = A 12 k := hr 12 (by decide) (by decide)
  have x14 : ∀ k, k < A 0 8 → A' 14 k = A 14 k := hr 14 (by decide) (by decide)
  have x15 : ∀ k, k < A 0 8 → A' 15 k = A 15 k := hr 15 (by decide) (by decide)
  refine ⟨by omega, ⟨by omega, by omega, by omega, h3, h4, h4c, h5⟩, fun k hk => ?_, fun k j hk hj e2 e3 => ?_, fun k hk => ?_, fun k hk => ?_, fun k hk => ?_, fun k hk => ?_, fun k hk => ?_, fun hz => by omega, by omega, fun i hi => ?_⟩
  · by_cases hk2 : k < A 0 2
    · have := a3 k hk2; have := x2 k hk2; have := x3 k hk2; have := x4 k hk2; omega
    · have e : k = A 0 2 := by omega
      subst e
      have := n2 (by omega); omega
  · by_cases hk2 : k < A 0 2
    · by_cases hj2 : j < A 0 2
      · rw [x2 k hk2, x2 j hj2] at e2
        rw [x3 k hk2, x3 j hj2] at e3
        exact a4 k j hk2 hj2 e2 e3
      · have e : j = A 0 2 := by omega
        subst e
        have := (n2 (by omega)).2.2.2.2 k hk2
        rw [x2 k hk2] at e2
        rw [x3 k hk2] at e3
        exact absurd ⟨e2, e3⟩ this
    · have e : k = A 0 2 := by omega
      subst e
      by_cases hj2 : j < A 0 2
      · have := (n2 (by omega)).2.2.2.2 j hj2
        rw [x2 j hj2] at e2
        rw [x3 j hj2] at e3
        exact absurd ⟨e2.symm, e3.symm⟩ this
      · omega
  · by_cases hk2 : k < A 0 3
    · have := a5 k hk2; have := x5 k hk2; have := x6 k hk2; omega
    · have e : k = A 0 3 := by omega
      subst e
      have := n3 (by omega); omega
  · by_cases hk2 : k < A 0 4
    · have := a6 k hk2; have := x7 k hk2; omega
    · have e : k = A 0 4 := by omega
      subst e
      have := n4 (by omega); omega
  · by_cases hk2 : k < A 0 5
    · have := a7 k hk2; have := x8 k hk2; have := x9 k hk2; omega
    · have e : k = A 0 5 := by omega
      subst e
      have := n5 (by omega); omega
  · refine ⟨?_, fun j hj e => ?_⟩
    · by_cases hk2 : k < A 0 6
      · have := (a8 k hk2).1; have := x10 k hk2; omega
      · have e : k = A 0 6 := by omega
        subst e
        have := n6 (by omega); omega
    · by_cases hk2 : k < A 0 6
      · by_cases hj2 : j < A 0 6
        · rw [x10 k hk2, x10 j hj2] at e
          exact (a8 k hk2).2 j hj2 e
        · have ej : j = A 0 6 := by omega
          subst ej
          rw [x10 k hk2] at e
          exact absurd e ((n6 (by omega)).2 k hk2)
      · have ek : k = A 0 6 := by omega
        subst ek
        by_cases hj2 : j < A 0 6
        · rw [x10 j hj2] at e
          exact absurd e.symm ((n6 (by omega)).2 j hj2)
        · omega
  · by_cases hk2 : k < A 0 7
    · have := a9 k hk2; have := x11 k hk2; have := x12 k hk2; omega
    · have e : k = A 0 7 := by omega
      subst e
      have := n7 (by omega); omega
  · by_cases hk2 : i < A 0 8
    · have := a12 i hk2; have := x14 i hk2; have := x15 i hk2; omega
    · have e : i = A 0 8 := by omega
      subst e
      exact n8 (by omega)
def dl (l : List Nat) (i : Nat) : Nat := if l.contains i then 1 else 0
theorem r14 {r : Nat} (h2 : 2 ≤ r) (h15 : r ≤ 15) : r = 2 ∨ r = 3 ∨ r = 4 ∨ r = 5 ∨ r = 6 ∨ r = 7 ∨ r = 8 ∨ r = 9 ∨ r = 10 ∨ r = 11 ∨ r = 12 ∨ r = 13 ∨ r = 14 ∨ r = 15 := by omega
theorem r9 {r : Nat} (h15 : r ≤ 8) : r = 0 ∨ r = 1 ∨ r = 2 ∨ r = 3 ∨ r = 4 ∨ r = 5 ∨ r = 6 ∨ r = 7 ∨ r = 8 := by omega
theorem ap1 {m w : Nat} (h0 : A 0 0 = 1) : APP A (L1 A m w) (dl [1, 8]) := by
  refine ⟨h0, fun i hi => ?_, by decide, fun i _ => by unfold dl; split <;> decide, by decide, fun r h2 h15 q hq => ?_, by simp [L1, inc, nmA, up2], by simp [L1, inc, nmA, up2], by simp [L1, inc, nmA, up2]⟩
  · rcases r9 hi with rfl | rfl | rfl | rfl | rfl | rfl | rfl | rfl | rfl <;> simp [L1, inc, nmA, up2, dl]
  · rcases r14 h2 h15 with rfl | rfl | rfl | rfl | rfl | rfl | rfl | rfl | rfl | rfl | rfl | rfl | rfl | rfl <;> simp [ctr] at hq <;> simp [L1, inc, nmA, up2] <;> omega
theorem ap2 {a b l m : Nat} (h0 : A 0 0 = 1) : APP A (L2 A a b l m) (dl [2]) := by
  refine ⟨h0, fun i hi => ?_, by decide, fun i _ => by unfold dl; split <;> decide, by decide, fun r h2 h15 q hq => ?_, by simp [L2, inc, nmA, up2], by simp [L2, inc, nmA, up2], by simp [L2, inc, nmA, up2]⟩
  · rcases r9 hi with rfl | rfl | rfl | rfl | rfl | rfl | rfl | rfl | rfl <;> simp [L2, inc, nmA, up2, dl]
  · rcases r14 h2 h15 with rfl | rfl | rfl | rfl | rfl | rfl | rfl | rfl | rfl | rfl | rfl | rfl | rfl | rfl <;> simp [ctr] at hq <;> simp [L2, inc, nmA, up2] <;> omega
theorem ap3 {k c w : Nat} (h0 : A 0 0 = 1) : APP A (L3 A k c w) (dl [3, 8]) := by
  refine ⟨h0, fun i hi => ?_, by decide, fun i _ => by unfold dl; split <;> decide, by decide, fun r h2 h15 q hq => ?_, by simp [L3, inc, nmA, up2], by simp [L3, inc, nmA, up2], by simp [L3, inc, nmA, up2]⟩
  · rcases r9 hi with rfl | rfl | rfl | rfl | rfl | rfl | rfl | rfl | rfl <;> simp [L3, inc, nmA, up2, dl]
  · rcases r14 h2 h15 with rfl | rfl | rfl | rfl | rfl | rfl | rfl | rfl | rfl | rfl | rfl | rfl | rfl | rfl <;> simp [ctr] at hq <;> simp [L3, inc, nmA, up2] <;> omega
theorem ap4 {c w : Nat} (h0 : A 0 0 = 1) : APP A (L4 A c w) (dl [4, 8]) := by
  refine ⟨h0, fun i hi => ?_, by decide, fun i _ => by unfold dl; split <;> decide, by decide, fun r h2 h15 q hq => ?_, by simp [L4, inc, nmA, up2], by simp [L4, inc, nmA, up2], by simp [L4, inc, nmA, up2]⟩
  · rcases r9 hi with rfl | rfl | rfl | rfl | rfl | rfl | rfl | rfl | rfl <;> simp [L4, inc, nmA, up2, dl]
  · rcases r14 h2 h15 with rfl | rfl | rfl | rfl | rfl | rfl | rfl | rfl | rfl | rfl | rfl | rfl | rfl | rfl <;> simp [ctr] at hq <;> simp [L4, inc, nmA, up2] <;> omega
theorem ap5 {c x : Nat} (h0 : A 0 0 = 1) : APP A (L5 A c x) (dl [5]) := by
  refine ⟨h0, fun i hi => ?_, by decide, fun i _ => by unfold dl; split <;> decide, by decide, fun r h2 h15 q hq => ?_, by simp [L5, inc, nmA, up2], by simp [L5, inc, nmA, up2], by simp [L5, inc, nmA, up2]⟩
  · rcases r9 hi with rfl | rfl | rfl | rfl | rfl | rfl | rfl | rfl | rfl <;> simp [L5, inc, nmA, up2, dl]
  · rcases r14 h2 h15 with rfl | rfl | rfl | rfl | rfl | rfl | rfl | rfl | rfl | rfl | rfl | rfl | rfl | rfl <;> simp [ctr] at hq <;> simp [L5, inc, nmA, up2] <;> omega
theorem ap6 {k : Nat} (h0 : A 0 0 = 1) : APP A (L6 A k) (dl [6]) := by
  refine ⟨h0, fun i hi => ?_, by decide, fun i _ => by unfold dl; split <;> decide, by decide, fun r h2 h15 q hq => ?_, by simp [L6, inc, nmA, up2], by simp [L6, inc, nmA, up2], by simp [L6, inc, nmA, up2]⟩
  · rcases r9 hi with rfl | rfl | rfl | rfl | rfl | rfl | rfl | rfl | rfl <;> simp [L6, inc, nmA, up2, dl]
  · rcases r14 h2 h15 with rfl | rfl | rfl | rfl | rfl | rfl | rfl | rfl | rfl | rfl | rfl | rfl | rfl | rfl <;> simp [ctr] at hq <;> simp [L6, inc, nmA, up2] <;> omega
theorem ap7 {a b m : Nat} (h0 : A 0 0 = 1) : APP A (L7 A a b m) (dl [7]) := by
  refine ⟨h0, fun i hi => ?_, by decide, fun i _ => by unfold dl; split <;> decide, by decide, fun r h2 h15 q hq => ?_, by simp [L7, inc, nmA, up2], by simp [L7, inc, nmA, up2], by simp [L7, inc, nmA, up2]⟩
  · rcases r9 hi with rfl | rfl | rfl | rfl | rfl | rfl | rfl | rfl | rfl <;> simp [L7, inc, nmA, up2, dl]
  · rcases r14 h2 h15 with rfl | rfl | rfl | rfl | rfl | rfl | rfl | rfl | rfl | rfl | rfl | rfl | rfl | rfl <;> simp [ctr] at hq <;> simp [L7, inc, nmA, up2] <;> omega
end Wfd
