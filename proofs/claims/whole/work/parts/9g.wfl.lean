/-! ===== each line keeps what is half told well told ===== -/
section Wfl
variable {B : Nat → Int} {n p : Nat} {A : aA}
theorem w1 {m w : Nat} (h : WFd A) (h0 : A 0 0 = 1) (h1 : A 0 1 < 8) (hm : m < 256) : WFd (L1 A m w) := by
  have hp := ap1 (m := m) (w := w) h0
  have hq := h.1
  have c1 : L1 A m w 0 1 = A 0 1 + 1 := by simp [L1, inc, nmA, up2]
  have c2 : L1 A m w 0 2 = A 0 2 := by simp [L1, inc, nmA, up2]
  have c3 : L1 A m w 0 3 = A 0 3 := by simp [L1, inc, nmA, up2]
  have c4 : L1 A m w 0 4 = A 0 4 := by simp [L1, inc, nmA, up2]
  have c5 : L1 A m w 0 5 = A 0 5 := by simp [L1, inc, nmA, up2]
  have c6 : L1 A m w 0 6 = A 0 6 := by simp [L1, inc, nmA, up2]
  have c7 : L1 A m w 0 7 = A 0 7 := by simp [L1, inc, nmA, up2]
  have e13 : L1 A m w 1 3 = m := by simp [L1, inc, nmA, up2]
  have e14 : L1 A m w 1 4 = A 1 4 := by simp [L1, inc, nmA, up2]
  have e15 : L1 A m w 1 5 = A 1 5 := by simp [L1, inc, nmA, up2]
  exact h.step hp ⟨by omega, by omega, by omega, by omega, by omega, by omega, by omega⟩ (by rw [e13]; exact hm) (by rw [e14, c2]; exact h.2.1.2.2.2.2.1) (by rw [e14]; exact h.2.1.2.2.2.2.2.1) (by rw [e15]; exact h.2.1.2.2.2.2.2.2) (fun e => absurd e (by decide)) (fun e => absurd e (by decide)) (fun e => absurd e (by decide)) (fun e => absurd e (by decide)) (fun e => absurd e (by decide)) (fun e => absurd e (by decide)) (fun _ => by simp [L1, inc, nmA, up2])
theorem w2 {a b l m : Nat} (h : WFd A) (h0 : A 0 0 = 1) (h1 : A 0 2 < 10) (ha : a < A 0 1) (hb : b < A 0 1) (hab : b ≠ a) (hw : ¬ wy A a b < A 0 2) (hl : 1 ≤ l ∧ l ≤ 20) (hm : m < 2 ^ (A 0 2 + 1)) (hc : cut6 m) : WFd (L2 A a b l m) := by
  have hp := ap2 (a := a) (b := b) (l := l) (m := m) h0
  have hq := h.1
  have c1 : L2 A a b l m 0 1 = A 0 1 := by simp [L2, inc, nmA, up2]
  have c2 : L2 A a b l m 0 2 = A 0 2 + 1 := by simp [L2, inc, nmA, up2]
  have c3 : L2 A a b l m 0 3 = A 0 3 := by simp [L2, inc, nmA, up2]
  have c4 : L2 A a b l m 0 4 = A 0 4 := by simp [L2, inc, nmA, up2]
  have c5 : L2 A a b l m 0 5 = A 0 5 := by simp [L2, inc, nmA, up2]
  have c6 : L2 A a b l m 0 6 = A 0 6 := by simp [L2, inc, nmA, up2]
  have c7 : L2 A a b l m 0 7 = A 0 7 := by simp [L2, inc, nmA, up2]
  have e13 : L2 A a b l m 1 3 = A 1 3 := by simp [L2, inc, nmA, up2]
  have e14 : L2 A a b l m 1 4 = m := by simp [L2, inc, nmA, up2]
  have e15 : L2 A a b l m 1 5 = A 1 5 := by simp [L2, inc, nmA, up2]
  have v2 : L2 A a b l m 2 (A 0 2) = (if b < a then b else a) := by simp [L2, inc, nmA, up2]
  have v3 : L2 A a b l m 3 (A 0 2) = (if b < a then a else b) := by simp [L2, inc, nmA, up2]
  have v4 : L2 A a b l m 4 (A 0 2) = l := by simp [L2, inc, nmA, up2]
  exact h.step hp ⟨by omega, by omega, by omega, by omega, by omega, by omega, by omega⟩ (by rw [e13]; exact h.2.1.2.2.2.1) (by rw [e14, c2]; exact hm) (by rw [e14]; exact hc) (by rw [e15]; exact h.2.1.2.2.2.2.2.2) (fun _ => by
    rw [v2, v3, v4]
    refine ⟨by split <;> omega, by split <;> omega, hl.1, hl.2, fun k hk e => hw ?_⟩
    have hj : jn (A 2) (A 3) k a b := by
      unfold jn
      by_cases hba : b < a
      · rw [if_pos hba, if_pos hba] at e; exact Or.inr e
      · rw [if_neg hba, if_neg hba] at e; exact Or.inl e
    rcases Nat.lt_or_ge (wy A a b) (A 0 2) with q | q
    · exact q
    · have := fst_no (wyp A a b) (A 0 2) k (by have : wy A a b = fst (wyp A a b) (A 0 2) := rfl; omega)
      rw [wyp_jn.mpr hj] at this; cases this) (fun e => absurd e (by decide)) (fun e => absurd e (by decide)) (fun e => absurd e (by decide)) (fun e => absurd e (by decide)) (fun e => absurd e (by decide)) (fun e => absurd e (by decide))
theorem w3 {k c w : Nat} (h : WFd A) (h0 : A 0 0 = 1) (h1 : A 0 3 < 3) (hk : k < 4) (hc : c < A 0 1) : WFd (L3 A k c w) := by
  have hp := ap3 (k := k) (c := c) (w := w) h0
  have hq := h.1
  have c1 : L3 A k c w 0 1 = A 0 1 := by simp [L3, inc, nmA, up2]
  have c2 : L3 A k c w 0 2 = A 0 2 := by simp [L3, inc, nmA, up2]
  have c3 : L3 A k c w 0 3 = A 0 3 + 1 := by simp [L3, inc, nmA, up2]
  have c4 : L3 A k c w 0 4 = A 0 4 := by simp [L3, inc, nmA, up2]
  have c5 : L3 A k c w 0 5 = A 0 5 := by simp [L3, inc, nmA, up2]
  have c6 : L3 A k c w 0 6 = A 0 6 := by simp [L3, inc, nmA, up2]
  have c7 : L3 A k c w 0 7 = A 0 7 := by simp [L3, inc, nmA, up2]
  have e13 : L3 A k c w 1 3 = A 1 3 := by simp [L3, inc, nmA, up2]
  have e14 : L3 A k c w 1 4 = A 1 4 := by simp [L3, inc, nmA, up2]
  have e15 : L3 A k c w 1 5 = A 1 5 := by simp [L3, inc, nmA, up2]
  have v5 : L3 A k c w 5 (A 0 3) = k := by simp [L3, inc, nmA, up2]
  have v6 : L3 A k c w 6 (A 0 3) = c := by simp [L3, inc, nmA, up2]
  exact h.step hp ⟨by omega, by omega, by omega, by omega, by omega, by omega, by omega⟩ (by rw [e13]; exact h.2.1.2.2.2.1) (by rw [e14, c2]; exact h.2.1.2.2.2.2.1) (by rw [e14]; exact h.2.1.2.2.2.2.2.1) (by rw [e15]; exact h.2.1.2.2.2.2.2.2) (fun e => absurd e (by decide)) (fun _ => by rw [v5, v6]; exact ⟨hk, hc⟩) (fun e => absurd e (by decide)) (fun e => absurd e (by decide)) (fun e => absurd e (by decide)) (fun e => absurd e (by decide)) (fun _ => by simp [L3, inc, nmA, up2])
theorem w4 {c w : Nat} (h : WFd A) (h0 : A 0 0 = 1) (h1 : A 0 4 < 4) (hc : c < A 0 1) : WFd (L4 A c w) := by
  have hp := ap4 (c := c) (w := w) h0
  have hq := h.1
  have c1 : L4 A c w 0 1 = A 0 1 := by simp [L4, inc, nmA, up2]
  have c2 : L4 A c w 0 2 = A 0 2 := by simp [L4, inc, nmA, up2]
  have c3 : L4 A c w 0 3 = A 0 3 := by simp [L4, inc, nmA, up2]
  have c4 : L4 A c w 0 4 = A 0 4 + 1 := by simp [L4, inc, nmA, up2]
  have c5 : L4 A c w 0 5 = A 0 5 := by simp [L4, inc, nmA, up2]
  have c6 : L4 A c w 0 6 = A 0 6 := by simp [L4, inc, nmA, up2]
  have c7 : L4 A c w 0 7 = A 0 7 := by simp [L4, inc, nmA, up2]
  have e13 : L4 A c w 1 3 = A 1 3 := by simp [L4, inc, nmA, up2]
  have e14 : L4 A c w 1 4 = A 1 4 := by simp [L4, inc, nmA, up2]
  have e15 : L4 A c w 1 5 = A 1 5 := by simp [L4, inc, nmA, up2]
  have v7 : L4 A c w 7 (A 0 4) = c := by simp [L4, inc, nmA, up2]
  exact h.step hp ⟨by omega, by omega, by omega, by omega, by omega, by omega, by omega⟩ (by rw [e13]; exact h.2.1.2.2.2.1) (by rw [e14, c2]; exact h.2.1.2.2.2.2.1) (by rw [e14]; exact h.2.1.2.2.2.2.2.1) (by rw [e15]; exact h.2.1.2.2.2.2.2.2) (fun e => absurd e (by decide)) (fun e => absurd e (by decide)) (fun _ => by rw [v7]; exact hc) (fun e => absurd e (by decide)) (fun e => absurd e (by decide)) (fun e => absurd e (by decide)) (fun _ => by simp [L4, inc, nmA, up2])
theorem w5 {c x : Nat} (h : WFd A) (h0 : A 0 0 = 1) (h1 : A 0 5 < 4) (hc : c < A 0 1) (hx : x ≤ 400) : WFd (L5 A c x) := by
  have hp := ap5 (c := c) (x := x) h0
  have hq := h.1
  have c1 : L5 A c x 0 1 = A 0 1 := by simp [L5, inc, nmA, up2]
  have c2 : L5 A c x 0 2 = A 0 2 := by simp [L5, inc, nmA, up2]
  have c3 : L5 A c x 0 3 = A 0 3 := by simp [L5, inc, nmA, up2]
  have c4 : L5 A c x 0 4 = A 0 4 := by simp [L5, inc, nmA, up2]
  have c5 : L5 A c x 0 5 = A 0 5 + 1 := by simp [L5, inc, nmA, up2]
  have c6 : L5 A c x 0 6 = A 0 6 := by simp [L5, inc, nmA, up2]
  have c7 : L5 A c x 0 7 = A 0 7 := by simp [L5, inc, nmA, up2]
  have e13 : L5 A c x 1 3 = A 1 3 := by simp [L5, inc, nmA, up2]
  have e14 : L5 A c x 1 4 = A 1 4 := by simp [L5, inc, nmA, up2]
  have e15 : L5 A c x 1 5 = A 1 5 := by simp [L5, inc, nmA, up2]
  have v8 : L5 A c x 8 (A 0 5) = c := by simp [L5, inc, nmA, up2]
  have v9 : L5 A c x 9 (A 0 5) = x := by simp [L5, inc, nmA, up2]
  exact h.step hp ⟨by omega, by omega, by omega, by omega, by omega, by omega, by omega⟩ (by rw [e13]; exact h.2.1.2.2.2.1) (by rw [e14, c2]; exact h.2.1.2.2.2.2.1) (by rw [e14]; exact h.2.1.2.2.2.2.2.1) (by rw [e15]; exact h.2.1.2.2.2.2.2.2) (fun e => absurd e (by decide)) (fun e => absurd e (by decide)) (fun e => absurd e (by decide)) (fun _ => by rw [v8, v9]; exact ⟨hc, hx⟩) (fun e => absurd e (by decide)) (fun e => absurd e (by decide)) (fun e => absurd e (by decide))
theorem w6 {k : Nat} (h : WFd A) (h0 : A 0 0 = 1) (h1 : A 0 6 < 4) (hk : k < A 0 2) (hu : ∀ i, i < A 0 6 → A 10 i ≠ k) : WFd (L6 A k) := by
  have hp := ap6 (k := k)  h0
  have hq := h.1
  have c1 : L6 A k 0 1 = A 0 1 := by simp [L6, inc, nmA, up2]
  have c2 : L6 A k 0 2 = A 0 2 := by simp [L6, inc, nmA, up2]
  have c3 : L6 A k 0 3 = A 0 3 := by simp [L6, inc, nmA, up2]
  have c4 : L6 A k 0 4 = A 0 4 := by simp [L6, inc, nmA, up2]
  have c5 : L6 A k 0 5 = A 0 5 := by simp [L6, inc, nmA, up2]
  have c6 : L6 A k 0 6 = A 0 6 + 1 := by simp [L6, inc, nmA, up2]
  have c7 : L6 A k 0 7 = A 0 7 := by simp [L6, inc, nmA, up2]
  have e13 : L6 A k 1 3 = A 1 3 := by simp [L6, inc, nmA, up2]
  have e14 : L6 A k 1 4 = A 1 4 := by simp [L6, inc, nmA, up2]
  have e15 : L6 A k 1 5 = A 1 5 := by simp [L6, inc, nmA, up2]
  have v10 : L6 A k 10 (A 0 6) = k := by simp [L6, inc, nmA, up2]
  exact h.step hp ⟨by omega, by omega, by omega, by omega, by omega, by omega, by omega⟩ (by rw [e13]; exact h.2.1.2.2.2.1) (by rw [e14, c2]; exact h.2.1.2.2.2.2.1) (by rw [e14]; exact h.2.1.2.2.2.2.2.1) (by rw [e15]; exact h.2.1.2.2.2.2.2.2) (fun e => absurd e (by decide)) (fun e => absurd e (by decide)) (fun e => absurd e (by decide)) (fun e => absurd e (by decide)) (fun _ => by rw [v10]; exact ⟨hk, hu⟩) (fun e => absurd e (by decide)) (fun e => absurd e (by decide))
theorem w7 {a b m : Nat} (h : WFd A) (h0 : A 0 0 = 1) (h1 : A 0 7 < 5) (ha : a < A 0 1) (hb : b < A 0 1) (hm : m < 32) : WFd (L7 A a b m) := by
  have hp := ap7 (a := a) (b := b) (m := m) h0
  have hq := h.1
  have c1 : L7 A a b m 0 1 = A 0 1 := by simp [L7, inc, nmA, up2]
  have c2 : L7 A a b m 0 2 = A 0 2 := by simp [L7, inc, nmA, up2]
  have c3 : L7 A a b m 0 3 = A 0 3 := by simp [L7, inc, nmA, up2]
  have c4 : L7 A a b m 0 4 = A 0 4 := by simp [L7, inc, nmA, up2]
  have c5 : L7 A a b m 0 5 = A 0 5 := by simp [L7, inc, nmA, up2]
  have c6 : L7 A a b m 0 6 = A 0 6 := by simp [L7, inc, nmA, up2]
  have c7 : L7 A a b m 0 7 = A 0 7 + 1 := by simp [L7, inc, nmA, up2]
  have e13 : L7 A a b m 1 3 = A 1 3 := by simp [L7, inc, nmA, up2]
  have e14 : L7 A a b m 1 4 = A 1 4 := by simp [L7, inc, nmA, up2]
  have e15 : L7 A a b m 1 5 = m := by simp [L7, inc, nmA, up2]
  have v11 : L7 A a b m 11 (A 0 7) = a := by simp [L7, inc, nmA, up2]
  have v12 : L7 A a b m 12 (A 0 7) = b := by simp [L7, inc, nmA, up2]
  exact h.step hp ⟨by omega, by omega, by omega, by omega, by omega, by omega, by omega⟩ (by rw [e13]; exact h.2.1.2.2.2.1) (by rw [e14, c2]; exact h.2.1.2.2.2.2.1) (by rw [e14]; exact h.2.1.2.2.2.2.2.1) (by rw [e15]; exact hm) (fun e => absurd e (by decide)) (fun e => absurd e (by decide)) (fun e => absurd e (by decide)) (fun e => absurd e (by decide)) (fun e => absurd e (by decide)) (fun _ => by rw [v11, v12]; exact ⟨ha, hb⟩) (fun e => absurd e (by decide))
theorem lz1 {m w : Nat} : L1 A m w 0 0 = A 0 0 := by simp [L1, inc, nmA, up2]
theorem lz2 {a b l m : Nat} : L2 A a b l m 0 0 = A 0 0 := by simp [L2, inc, nmA, up2]
theorem lz3 {k c w : Nat} : L3 A k c w 0 0 = A 0 0 := by simp [L3, inc, nmA, up2]
theorem lz4 {c w : Nat} : L4 A c w 0 0 = A 0 0 := by simp [L4, inc, nmA, up2]
theorem lz5 {c x : Nat} : L5 A c x 0 0 = A 0 0 := by simp [L5, inc, nmA, up2]
theorem lz6 {k : Nat} : L6 A k 0 0 = A 0 0 := by simp [L6, inc, nmA, up2]
theorem lz7 {a b m : Nat} : L7 A a b m 0 0 = A 0 0 := by simp [L7, inc, nmA, up2]
theorem rom_lt : ∀ j, j < 8 → rom j ≤ 10 := by decide
theorem sBeg_ok {j : Nat} (h : sBeg B n A p = .ok j) : j < 8 ∧ lid B n p = j ∧ A 0 j < rom j ∧ (j = 0 → A 0 0 = 0) ∧ (j ≠ 0 → 0 < A 0 0) ∧ kS B n p = 1 := by
  unfold sBeg at h
  split at h
  · cases h
  · rename_i e1
    split at h
    · cases h
    · rename_i e2
      split at h
      · cases h
      · rename_i e3
        split at h
        · cases h
        · rename_i e4
          cases h
          have hle : lid B n p ≤ 8 := by
            unfold lid
            split
            · exact fst_le _ _
            · exact Nat.le_refl _
          refine ⟨by omega, rfl, by omega, fun e => by omega, fun e => by omega, ?_⟩
          unfold lid at e1
          by_cases hk : kS B n p = 1
          · exact hk
          · rw [if_neg hk] at e1; exact absurd rfl e1
theorem pow_or {m k r : Nat} (h : m < 2 ^ r) (hk : k < r) : m ||| 2 ^ k < 2 ^ r := or_lt_pow h hk
/-- what a line leaves -/
theorem sRest_ok {j : Nat} {x : aA × Nat} (hA : WFd A) (hp : p ≤ n) (hj : j < 8) (hr : A 0 j < rom j) (h00 : j = 0 → A 0 0 = 0) (h01 : j ≠ 0 → 0 < A 0 0) (h : sRest B n j A p = .ok x) : WFd x.1 ∧ x.1 0 0 = 1 ∧ p ≤ x.2 ∧ x.2 ≤ n := by
  have hk1 : kX B n p ≤ n := kx_le hp
  have hg1 : p ≤ kX B n p := kx_ge hp
  have hk2 : kX B n (kX B n p) ≤ n := kx_le hk1
  have hg2 : kX B n p ≤ kX B n (kX B n p) := kx_ge hk1
  have hnum : ∀ q, q ≤ n → q ≤ kX B n (kX B n q) ∧ kX B n (kX B n q) ≤ n := fun q hq => by
    have a1 := kx_le (B := B) hq; have a2 := kx_ge (B := B) hq; have a3 := kx_le (B := B) a1; have a4 := kx_ge (B := B) a1
    omega
  have h1 : j ≠ 0 → A 0 0 = 1 := fun e => by have := h01 e; have := hA.1.1; omega
  have r1 : j < 8 → (j = 0 ∨ j = 1 ∨ j = 2 ∨ j = 3 ∨ j = 4 ∨ j = 5 ∨ j = 6 ∨ j = 7) := by omega
  unfold sRest at h
  rcases r1 hj with rfl | rfl | rfl | rfl | rfl | rfl | rfl | rfl
  · have h : sl0 B n A p = .ok x := h
    unfold sl0 at h
    obtain ⟨a, ea, h⟩ := ex_bind h
    obtain ⟨b, eb, h⟩ := ex_bind h
    obtain ⟨c, ec, h⟩ := ex_bind h
    cases h
    obtain ⟨-, a2, a3⟩ := sNu_ok ea
    obtain ⟨-, b2, b3⟩ := sNu_ok eb
    obtain ⟨-, c2, c3⟩ := sNu_ok ec
    have n1 := hnum p hp
    have n2 := hnum a.2 (by omega)
    have n3 := hnum b.2 (by omega)
    exact ⟨wf0 hA (h00 rfl) a2 b2 c2, by show L0 A a.1 b.1 c.1 0 0 = 1; simp [L0, inc, up2, h00 rfl], by show p ≤ c.2; omega, by show c.2 ≤ n; omega⟩
  · have h : sl1 B n A p = .ok x := h
    have hr : A 0 1 < 8 := hr
    unfold sl1 at h
    obtain ⟨p1, e1, h⟩ := ex_bind h
    obtain ⟨rfl, -, -⟩ := sNw_ok e1
    have hm : A 1 3 ||| 2 ^ A 0 1 < 256 := or_lt_pow (m := 8) hA.2.1.2.2.2.1 hr
    split at h
    · cases h
      exact ⟨w1 hA (h1 (by decide)) hr hm, by dsimp only; rw [lz1]; exact h1 (by decide), by show p ≤ kX B n (kX B n p); omega, hk2⟩
    · split at h
      · cases h
        exact ⟨w1 hA (h1 (by decide)) hr hA.2.1.2.2.2.1, by dsimp only; rw [lz1]; exact h1 (by decide), by show p ≤ kX B n (kX B n p); omega, hk2⟩
      · cases h
  · have h : sl2 B n A p = .ok x := h
    have hr : A 0 2 < 10 := hr
    unfold sl2 at h
    obtain ⟨a, ea, h⟩ := ex_bind h
    obtain ⟨b, eb, h⟩ := ex_bind h
    split at h
    · cases h
    · rename_i hne
      obtain ⟨y, ey, h⟩ := ex_bind h
      obtain ⟨y1, y2, y3⟩ := sNu_ok ey
      have n1 := hnum _ hk2
      have n2 := kx_le (B := B) n1.2
      have n3 := kx_ge (B := B) n1.2
      have ha := sCv_ok hA ea
      have hb := sCv_ok hA eb
      have hlt : A 1 4 < 2 ^ (A 0 2 + 1) := Nat.lt_trans hA.2.1.2.2.2.2.1 (Nat.pow_lt_pow_right (by decide) (by omega))
      split at h
      · split at h
        · rename_i hcnt
          cases h
          have hc6 : cut6 (A 1 4 ||| 2 ^ A 0 2) := by
            have q1 := cntp_or (A 1 4) (A 0 2) 10
            have q2 := cntp_16 (s := A 1 4)
            unfold cut6
            split at q1 <;> omega
          exact ⟨w2 hA (h1 (by decide)) hr ha hb (fun e => hne (Or.inl e)) (fun e => hne (Or.inr e)) ⟨y1, y2⟩ (or_lt_pow hlt (by omega)) hc6, by dsimp only; rw [lz2]; exact h1 (by decide), by show p ≤ kX B n y.2; rw [y3]; omega, by show kX B n y.2 ≤ n; rw [y3]; exact n2⟩
        · cases h
      · split at h
        · cases h
          exact ⟨w2 hA (h1 (by decide)) hr ha hb (fun e => hne (Or.inl e)) (fun e => hne (Or.inr e)) ⟨y1, y2⟩ hlt hA.2.1.2.2.2.2.2.1, by dsimp only; rw [lz2]; exact h1 (by decide), by show p ≤ kX B n y.2; rw [y3]; omega, by show kX B n y.2 ≤ n; rw [y3]; exact n2⟩
        · cases h
  · have h : sl3 B n A p = .ok x := h
    have hr : A 0 3 < 3 := hr
    unfold sl3 at h
    obtain ⟨p1, e1, h⟩ := ex_bind h
    obtain ⟨rfl, -, -⟩ := sNw_ok e1
    split at h
    · cases h
    · rename_i hkd
      obtain ⟨p3, e3, h⟩ := ex_bind h
      obtain ⟨-, rfl⟩ := sWd_ok e3
      obtain ⟨c, ec, h⟩ := ex_bind h
      cases h
      have n1 := kx_le (B := B) hk2
      have n2 := kx_ge (B := B) hk2
      have n3 := kx_le (B := B) n1
      have n4 := kx_ge (B := B) n1
      have hk4 : sKd B n (kX B n p) < 4 := by
        have : sKd B n (kX B n p) ≤ 4 := by
          unfold sKd
          split
          · decide
          · split
            · decide
            · split
              · decide
              · split <;> decide
        omega
      exact ⟨w3 hA (h1 (by decide)) hr hk4 (sCv_ok hA ec), by dsimp only; rw [lz3]; exact h1 (by decide), by show p ≤ kX B n (kX B n (kX B n (kX B n p))); omega, n3⟩
  · have h : sl4 B n A p = .ok x := h
    have hr : A 0 4 < 4 := hr
    unfold sl4 at h
    obtain ⟨p1, e1, h⟩ := ex_bind h
    obtain ⟨rfl, -, -⟩ := sNw_ok e1
    obtain ⟨p3, e3, h⟩ := ex_bind h
    obtain ⟨-, rfl⟩ := sWd_ok e3
    obtain ⟨c, ec, h⟩ := ex_bind h
    cases h
    have n1 := kx_le (B := B) hk2
    have n2 := kx_ge (B := B) hk2
    exact ⟨w4 hA (h1 (by decide)) hr (sCv_ok hA ec), by dsimp only; rw [lz4]; exact h1 (by decide), by show p ≤ kX B n (kX B n (kX B n p)); omega, n1⟩
  · have h : sl5 B n A p = .ok x := h
    have hr : A 0 5 < 4 := hr
    unfold sl5 at h
    obtain ⟨c, ec, h⟩ := ex_bind h
    split at h
    · cases h
    · obtain ⟨y, ey, h⟩ := ex_bind h
      obtain ⟨y1, y2, y3⟩ := sNu_ok ey
      cases h
      have n1 := hnum _ hk1
      exact ⟨w5 hA (h1 (by decide)) hr (sCv_ok hA ec) y2, by dsimp only; rw [lz5]; exact h1 (by decide), by show p ≤ y.2; omega, by show y.2 ≤ n; omega⟩
  · have h : sl6 B n A p = .ok x := h
    have hr : A 0 6 < 4 := hr
    unfold sl6 at h
    obtain ⟨a, ea, h⟩ := ex_bind h
    obtain ⟨b, eb, h⟩ := ex_bind h
    split at h
    · cases h
    · split at h
      · rename_i hwy
        split at h
        · cases h
        · rename_i hun
          cases h
          have hu : ∀ i, i < A 0 6 → A 10 i ≠ wy A a b := fun i hi e => hun ((exb_iff _).mpr ⟨i, hi, decide_eq_true e⟩)
          exact ⟨w6 hA (h1 (by decide)) hr hwy hu, by dsimp only; rw [lz6]; exact h1 (by decide), by show p ≤ kX B n (kX B n p); omega, hk2⟩
      · cases h
  · have h : sl7 B n A p = .ok x := h
    have hr : A 0 7 < 5 := hr
    unfold sl7 at h
    obtain ⟨a, ea, h⟩ := ex_bind h
    obtain ⟨b, eb, h⟩ := ex_bind h
    have n1 := kx_le (B := B) hk2
    have n2 := kx_ge (B := B) hk2
    split at h
    · cases h
    · split at h
      · cases h
        exact ⟨w7 hA (h1 (by decide)) hr (sCv_ok hA ea) (sCv_ok hA eb) (or_lt_pow (m := 5) hA.2.1.2.2.2.2.2.2 hr), by dsimp only; rw [lz7]; exact h1 (by decide), by show p ≤ kX B n (kX B n (kX B n p)); omega, n1⟩
      · split at h
        · cases h
          exact ⟨w7 hA (h1 (by decide)) hr (sCv_ok hA ea) (sCv_ok hA eb) hA.2.1.2.2.2.2.2.2, by dsimp only; rw [lz7]; exact h1 (by decide), by show p ≤ kX B n (kX B n (kX B n p)); omega, n1⟩
        · cases h
end Wfl
