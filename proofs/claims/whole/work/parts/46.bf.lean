/-! ===== rows made by turns over the ways; squares made by caves gone through ===== -/
section Turns
variable {nw : Nat} {one two len : Nat → Nat} {dr : Nat → Bool} {F : Nat} {c : Nat}
def bst (one two len : Nat → Nat) (dr : Nat → Bool) (V : Nat → Nat) (k : Nat) : Nat → Nat := if dr k = true then shrt (shrt V (one k) (two k) (len k)) (two k) (one k) (len k) else V
def btn (one two len : Nat → Nat) (dr : Nat → Bool) (V : Nat → Nat) : Nat → Nat → Nat
  | 0 => V
  | k + 1 => bst one two len dr (btn one two len dr V k) k
theorem bst_le (V : Nat → Nat) (k t : Nat) : bst one two len dr V k t ≤ V t := by
  unfold bst
  split
  · exact Nat.le_trans (shrt_le _ _ _ _ _) (shrt_le _ _ _ _ _)
  · exact Nat.le_refl _
theorem bst_row {V : Nat → Nat} (h : rowing nw one two len dr F c V) {k : Nat} (hk : k < nw) : rowing nw one two len dr F c (bst one two len dr V k) := by
  unfold bst
  split
  · rename_i hd
    exact shrt_row (shrt_row h hk hd (Or.inl ⟨rfl, rfl⟩)) hk hd (Or.inr ⟨rfl, rfl⟩)
  · exact h
theorem btn_row {V : Nat → Nat} (h : rowing nw one two len dr F c V) : ∀ k, k ≤ nw → rowing nw one two len dr F c (btn one two len dr V k)
  | 0, _ => h
  | k + 1, hk => bst_row (btn_row h k (by omega)) (by omega)
theorem btn_mono (V : Nat → Nat) (t m : Nat) : ∀ j, btn one two len dr V (m + j) t ≤ btn one two len dr V m t
  | 0 => Nat.le_refl _
  | j + 1 => Nat.le_trans (bst_le _ _ _) (btn_mono V t m j)
theorem btn_le (V : Nat → Nat) (t k : Nat) : btn one two len dr V k t ≤ V t := by
  have := btn_mono (one := one) (two := two) (len := len) (dr := dr) V t 0 k
  rw [Nat.zero_add] at this
  exact this
theorem bst_jn {V : Nat → Nat} {k a b : Nat} (hd : dr k = true) (hj : jn one two k a b) (hl : 0 < len k) : bst one two len dr V k b ≤ V a + len k := by
  have e : bst one two len dr V k = shrt (shrt V (one k) (two k) (len k)) (two k) (one k) (len k) := if_pos hd
  rw [e]
  rcases hj with ⟨rfl, rfl⟩ | ⟨rfl, rfl⟩
  · refine Nat.le_trans (shrt_le _ _ _ _ _) ?_
    unfold shrt
    split
    · exact Nat.le_refl _
    · rename_i h; have : ¬ V (one k) + len k < V (two k) := fun h2 => h ⟨rfl, h2⟩
      omega
  · have h1 := shrt_le V (one k) (two k) (len k) (two k)
    have h2 := shrt_le V (one k) (two k) (len k) (one k)
    generalize hW : shrt V (one k) (two k) (len k) = W at *
    unfold shrt
    split
    · omega
    · rename_i h; have : ¬ W (two k) + len k < W (one k) := fun h2 => h ⟨rfl, h2⟩
      omega
/-- a turn settles those whose one before is settled -/
theorem btn_jn {V : Nat → Nat} {k a b : Nat} (hk : k < nw) (hd : dr k = true) (hj : jn one two k a b) (hl : 0 < len k) : btn one two len dr V nw b ≤ V a + len k := by
  have h1 := btn_mono (one := one) (two := two) (len := len) (dr := dr) V b (k + 1) (nw - (k + 1))
  rw [show k + 1 + (nw - (k + 1)) = nw by omega] at h1
  have h2 := bst_jn (V := btn one two len dr V k) hd hj hl
  have h3 := btn_le (one := one) (two := two) (len := len) (dr := dr) V a k
  exact Nat.le_trans h1 (Nat.le_trans h2 (by omega))
theorem btn_settle {N i : Nat} {D V : Nat → Nat} (hN : ∀ k, k < nw → one k < N ∧ two k < N) (hl : ∀ k, k < nw → 0 < len k) (hD : isR nw one two len dr F c D) (hV : rowing nw one two len dr F c V) (h : ∀ x, rnk D x N ≤ i → V x ≤ D x) : ∀ t, rnk D t N ≤ i + 1 → btn one two len dr V nw t ≤ D t := by
  intro t ht
  by_cases h1 : t = c
  · have := (btn_row hV nw (Nat.le_refl _)).1
    rw [h1, this]; exact Nat.zero_le _
  · by_cases hf : D t < F
    · obtain ⟨k, x, hk, hd, hj, hx⟩ := isR_pred hD h1 hf
      have h3 := hl k hk
      have hxN : x < N := by rcases hj with ⟨rfl, -⟩ | ⟨-, rfl⟩; exact (hN k hk).1; exact (hN k hk).2
      have h5 := (rnk_lt (D := D) (x := x) (t := t) (by omega) N).2 hxN
      have h6 := h x (by omega)
      have h7 := btn_jn (V := V) hk hd hj h3
      omega
    · have := (btn_row hV nw (Nat.le_refl _)).2.1 t; omega
theorem btn_stb {V : Nat → Nat} (h : ∀ t, btn one two len dr V nw t = V t) (hl : ∀ k, k < nw → 0 < len k) : stb nw one two len dr V := by
  intro k hk hd
  have h1 := btn_jn (V := V) hk hd (Or.inl ⟨rfl, rfl⟩ : jn one two k (one k) (two k)) (hl k hk)
  have h2 := btn_jn (V := V) hk hd (Or.inr ⟨rfl, rfl⟩ : jn one two k (two k) (one k)) (hl k hk)
  rw [h] at h1 h2
  exact ⟨h1, h2⟩
/-- turns one behind another, until one changes nothing -/
def btns (nw : Nat) (one two len : Nat → Nat) (dr : Nat → Bool) (V : Nat → Nat) : Nat → Nat → Nat
  | 0 => V
  | i + 1 => btn one two len dr (btns nw one two len dr V i) nw
theorem btns_row {V : Nat → Nat} (h : rowing nw one two len dr F c V) : ∀ i, rowing nw one two len dr F c (btns nw one two len dr V i)
  | 0 => h
  | i + 1 => btn_row (btns_row h i) nw (Nat.le_refl _)
theorem btns_settle {N : Nat} {D : Nat → Nat} (hN : ∀ k, k < nw → one k < N ∧ two k < N) (hl : ∀ k, k < nw → 0 < len k) (hcN : c < N) (hD : isR nw one two len dr F c D) : ∀ i t, rnk D t N ≤ i → btns nw one two len dr (row0 F c) i t ≤ D t
  | 0, t, ht => by
    show row0 F c t ≤ D t
    unfold row0
    split
    · exact Nat.zero_le _
    · rename_i h1
      by_cases h2 : D t = 0
      · by_cases hf : D t < F
        · obtain ⟨k, x, hk, hd, hj, hx⟩ := isR_pred hD h1 hf
          have := hl k hk; omega
        · omega
      · have h3 := (rnk_lt (D := D) (x := c) (t := t) (by rw [hD.1.1]; omega) N).2 hcN
        omega
  | i + 1, t, ht => btn_settle hN hl hD (btns_row row0_row i) (fun x hx => btns_settle hN hl hcN hD i x hx) t ht
theorem btns_isR {N : Nat} (hN : ∀ k, k < nw → one k < N ∧ two k < N) (hl : ∀ k, k < nw → 0 < len k) (hcN : c < N) {i : Nat} (h : N ≤ i + 1 ∨ ∀ t, btn one two len dr (btns nw one two len dr (row0 F c) i) nw t = btns nw one two len dr (row0 F c) i t) : isR nw one two len dr F c (btns nw one two len dr (row0 F c) i) := by
  obtain ⟨D, hD⟩ := isR_ex (nw := nw) (one := one) (two := two) (len := len) (dr := dr) (F := F) (c := c) hN
  rcases h with h | h
  · have hle : ∀ t, btns nw one two len dr (row0 F c) i t ≤ D t := by
      intro t
      by_cases ht : t < N
      · exact btns_settle hN hl hcN hD i t (by have := rnk_lt_n (D := D) N ht; omega)
      · have := isR_out hN hcN hD (Nat.le_of_not_lt ht)
        have := (btns_row (nw := nw) (one := one) (two := two) (len := len) (dr := dr) (F := F) (c := c) row0_row i).2.1 t
        omega
    have hge : ∀ t, D t ≤ btns nw one two len dr (row0 F c) i t := fun t => isR_le hD.1.1 hD.1.2.1 hD.2 hl (btns_row row0_row i) _ t rfl
    have : btns nw one two len dr (row0 F c) i = D := funext fun t => Nat.le_antisymm (hle t) (hge t)
    rw [this]; exact hD
  · exact ⟨btns_row row0_row i, btn_stb h hl⟩
/-- by caves gone through -/
def fw (d : Nat → Nat → Nat) (k : Nat) : Nat → Nat → Nat := fun a b => if d a k + d k b < d a b then d a k + d k b else d a b
def fwN (d : Nat → Nat → Nat) : Nat → Nat → Nat → Nat
  | 0 => d
  | k + 1 => fw (fwN d k) k
theorem fw_le (d : Nat → Nat → Nat) (k a b : Nat) : fw d k a b ≤ d a b := by
  unfold fw; split
  · omega
  · omega
theorem fwN_le (d : Nat → Nat → Nat) (m a b : Nat) : ∀ j, fwN d (m + j) a b ≤ fwN d m a b
  | 0 => Nat.le_refl _
  | j + 1 => Nat.le_trans (fw_le _ _ _ _) (fwN_le d m a b j)
theorem fwN_0 {d : Nat → Nat → Nat} (h : ∀ a, d a a = 0) (k a : Nat) : fwN d k a a = 0 := by
  have := fwN_le d 0 a a k
  rw [Nat.zero_add] at this
  have h2 := h a
  have h3 : fwN d 0 a a = d a a := rfl
  omega
theorem fw_tri {d : Nat → Nat → Nat} (h : ∀ a, d a a = 0) : ∀ k m a b, m < k → fwN d k a b ≤ fwN d k a m + fwN d k m b
  | 0, m, _, _, hm => absurd hm (Nat.not_lt_zero m)
  | k + 1, m, a, b, hm => by
    have h0 : ∀ x, fwN d k x x = 0 := fwN_0 h k
    have ih := fw_tri h k
    show fw (fwN d k) k a b ≤ fw (fwN d k) k a m + fw (fwN d k) k m b
    generalize fwN d k = e at *
    by_cases hmk : m = k
    · subst hmk
      have h1 := h0 m
      unfold fw
      split <;> split <;> split <;> omega
    · have i1 := ih m a b (by omega)
      have i2 := ih m k b (by omega)
      have i3 := ih m a k (by omega)
      unfold fw
      split <;> split <;> split <;> omega
theorem fw_isR {N : Nat} {d : Nat → Nat → Nat} (h0 : ∀ a, d a a = 0) (hF : ∀ a b, d a b ≤ F) (hw : ∀ k, k < nw → dr k = true → ∀ a b, jn one two k a b → d a b ≤ len k) (hp : ∀ a b, a ≠ b → d a b < F → ∃ k, k < nw ∧ dr k = true ∧ jn one two k a b ∧ len k ≤ d a b) (hN : ∀ k, k < nw → one k < N ∧ two k < N) (a : Nat) : isR nw one two len dr F a (fwN d N a) := by
  have hz := fwN_0 h0 N
  have htri := fw_tri h0 N
  have hle0 : ∀ a b, fwN d N a b ≤ d a b := fun a b => by
    have := fwN_le d 0 a b N
    rw [Nat.zero_add] at this
    exact this
  refine ⟨⟨hz a, fun t => Nat.le_trans (hle0 a t) (hF a t), fun t ht hf => ?_⟩, fun k hk hd => ?_⟩
  · have key : ∀ k, k ≤ N → ∀ a b, a ≠ b → fwN d k a b < F → ∃ k2 x, k2 < nw ∧ dr k2 = true ∧ jn one two k2 x b ∧ fwN d N a x + len k2 ≤ fwN d k a b := by
      intro k
      induction k with
      | zero =>
        intro _ a b hab hf
        obtain ⟨k2, h1, h2, h3, h4⟩ := hp a b hab hf
        refine ⟨k2, a, h1, h2, h3, ?_⟩
        rw [hz a]
        have : fwN d 0 a b = d a b := rfl
        omega
      | succ k ih =>
        intro hk a b hab hf
        have hlk : ∀ a b, fwN d N a b ≤ fwN d k a b := fun a b => by
          have := fwN_le d k a b (N - k)
          rw [show k + (N - k) = N by omega] at this
          exact this
        by_cases h1 : fwN d k a k + fwN d k k b < fwN d k a b
        · have e : fwN d (k + 1) a b = fwN d k a k + fwN d k k b := if_pos h1
          rw [e] at hf ⊢
          by_cases hkb : k = b
          · subst hkb
            have := fwN_0 h0 k k
            omega
          · obtain ⟨k2, x, g1, g2, g3, g4⟩ := ih (by omega) k b hkb (by omega)
            refine ⟨k2, x, g1, g2, g3, ?_⟩
            have := htri k a x (by omega)
            have := hlk a k
            omega
        · have e : fwN d (k + 1) a b = fwN d k a b := if_neg h1
          rw [e] at hf ⊢
          exact ih (by omega) a b hab hf
    exact key N (Nat.le_refl _) a t (fun h => ht h.symm) hf
  · have g1 := htri (one k) a (two k) (hN k hk).1
    have g2 := htri (two k) a (one k) (hN k hk).2
    have g3 := hle0 (one k) (two k)
    have g4 := hle0 (two k) (one k)
    have g5 := hw k hk hd (one k) (two k) (Or.inl ⟨rfl, rfl⟩)
    have g6 := hw k hk hd (two k) (one k) (Or.inr ⟨rfl, rfl⟩)
    omega
/-- squares: triangles, both ways alike, first steps -/
def isQ (nw : Nat) (one two len : Nat → Nat) (dr : Nat → Bool) (F : Nat) (D : Nat → Nat → Nat) : Prop := ∀ a, isR nw one two len dr F a (D a)
theorem isQ_tri {D : Nat → Nat → Nat} (h : isQ nw one two len dr F D) (hl : ∀ k, k < nw → 0 < len k) (a b : Nat) : ∀ n t, D b t = n → D a t ≤ D a b + D b t := by
  intro n
  induction n using Nat.strongRecOn with
  | ind n ih =>
    intro t ht
    by_cases h1 : t = b
    · subst h1; omega
    · by_cases hf : D b t < F
      · obtain ⟨k, x, hk, hd, hj, hx⟩ := isR_pred (h b) h1 hf
        have := hl k hk
        have h3 := ih (D b x) (by omega) x rfl
        have h4 := (h a).2.jn hk hd hj
        omega
      · have := (h a).1.2.1 t; omega
theorem isQ_first {D : Nat → Nat → Nat} (h : isQ nw one two len dr F D) (hl : ∀ k, k < nw → 0 < len k) (c : Nat) : ∀ n t, D c t = n → t ≠ c → D c t < F → ∃ k x, k < nw ∧ dr k = true ∧ jn one two k c x ∧ len k + D x t = D c t := by
  intro n
  induction n using Nat.strongRecOn with
  | ind n ih =>
    intro t ht hne hf
    obtain ⟨k, x, hk, hd, hj, hx⟩ := isR_pred (h c) hne hf
    have hlk := hl k hk
    by_cases h1 : x = c
    · subst h1
      refine ⟨k, t, hk, hd, hj, ?_⟩
      have e1 := (h t).1.1
      have e2 := (h x).1.1
      omega
    · obtain ⟨k2, x2, hk2, hd2, hj2, hx2⟩ := ih (D c x) (by omega) x rfl h1 (by omega)
      refine ⟨k2, x2, hk2, hd2, hj2, ?_⟩
      have h3 := (h x2).2.jn hk hd hj
      have h4 := isQ_tri h hl c x2 _ t rfl
      have h5 := (h c).2.jn hk2 hd2 hj2
      have h6 := (h c).1.1
      omega
theorem isQ_symm {D : Nat → Nat → Nat} (h : isQ nw one two len dr F D) (hl : ∀ k, k < nw → 0 < len k) (a b : Nat) : D a b = D b a := by
  have key : ∀ a, isR nw one two len dr F a (fun t => D t a) := by
    intro a
    refine ⟨⟨(h a).1.1, fun t => (h t).1.2.1 a, fun t ht hf => ?_⟩, fun k hk hd => ?_⟩
    · obtain ⟨k, x, hk, hd, hj, hx⟩ := isQ_first h hl t _ a rfl (fun e => ht e.symm) hf
      exact ⟨k, x, hk, hd, jn_symm hj, by show D x a + len k ≤ D t a; omega⟩
    · have t1 := isQ_tri h hl (two k) (one k) _ a rfl
      have t2 := isQ_tri h hl (one k) (two k) _ a rfl
      have s1 := (h (one k)).2 k hk hd
      have s2 := (h (two k)).2 k hk hd
      have z1 := (h (one k)).1.1
      have z2 := (h (two k)).1.1
      show D (two k) a ≤ D (one k) a + len k ∧ D (one k) a ≤ D (two k) a + len k
      omega
  have := isR_one hl (h a) (key a)
  exact congrFun this b
end Turns
