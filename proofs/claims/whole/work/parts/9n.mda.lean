/-! ===== the model's well, a line more ===== -/
section Mda
variable {M E : aM} {A A' : aA} {d : Nat → Nat} {w : Nat}
theorem MRd.app (h : MRd M w A) (hc : ∀ i, 1 ≤ i → i ≤ 8 → A' 0 i = A 0 i + d i ∧ d i ≤ 1) (hr : ∀ r, 2 ≤ r → r ≤ 15 → ∀ k, k < A 0 (ctr r) → A' r k = A r k) (e0 : E w 0 = (if A' 0 0 = 1 then (A' 1 0 : Int) else -1) ∧ (A' 0 0 = 1 → E w 1 = (A' 1 1 : Int) ∧ E w 2 = (A' 1 2 : Int))) (ec : ∀ i, 1 ≤ i → i ≤ 8 → E w (cf i) = (A' 0 i : Int)) (eb : E w 4 = (A' 1 3 : Int) ∧ E w 6 = (A' 1 4 : Int) ∧ E w 12 = (A' 1 5 : Int)) (eold : ∀ r, 2 ≤ r → r ≤ 15 → ∀ k, k < A 0 (ctr r) → E (w + (r - 1)) k = M (w + (r - 1)) k) (enew : ∀ r, 2 ≤ r → r ≤ 15 → d (ctr r) = 1 → E (w + (r - 1)) (A 0 (ctr r)) = (mvl r (A' r (A 0 (ctr r))) : Int)) : MRd E w A' := by
  refine ⟨e0, ec, eb, fun r h2 h15 k hk => ?_⟩
  have hct := ctr_in r (by omega) h2
  have hcr := hc (ctr r) hct.1 hct.2
  by_cases hk2 : k < A 0 (ctr r)
  · rw [eold r h2 h15 k hk2, hr r h2 h15 k hk2]
    exact h.2.2.2 r h2 h15 k hk2
  · have e : k = A 0 (ctr r) := by omega
    subst e
    exact enew r h2 h15 (by omega)
def nmW (M : aM) (w : Nat) (A : aA) (u s nb : Nat) : aM := aup (aup (aup (aup M (w + 12) (A 0 8) (u : Int)) (w + 13) (A 0 8) (s : Int)) (w + 14) (A 0 8) (nb : Int)) w 13 ((A 0 8 : Int) + 1)
def G0w (M : aM) (w a b c : Nat) : aM := aup (aup (aup M w 0 (a : Int)) w 1 (b : Int)) w 2 (c : Int)
def G1w (M : aM) (w : Nat) (A : aA) (m u : Nat) : aM := aup (aup (nmW M w A u 0 (A 0 1)) w 4 (m : Int)) w 3 ((A 0 1 : Int) + 1)
def G2w (M : aM) (w : Nat) (A : aA) (a b l m : Nat) : aM := aup (aup (aup (aup (aup M (w + 1) (A 0 2) ((if b < a then b else a : Nat) : Int)) (w + 2) (A 0 2) ((if b < a then a else b : Nat) : Int)) (w + 3) (A 0 2) (l : Int)) w 6 (m : Int)) w 5 ((A 0 2 : Int) + 1)
def G3w (M : aM) (w : Nat) (A : aA) (k c u : Nat) : aM := aup (aup (aup (nmW M w A u 1 (A 0 3)) (w + 4) (A 0 3) (k : Int)) (w + 5) (A 0 3) (c : Int)) w 7 ((A 0 3 : Int) + 1)
def G4w (M : aM) (w : Nat) (A : aA) (c u : Nat) : aM := aup (aup (nmW M w A u 2 (A 0 4)) (w + 6) (A 0 4) (c : Int)) w 8 ((A 0 4 : Int) + 1)
def G5w (M : aM) (w : Nat) (A : aA) (c x : Nat) : aM := aup (aup (aup M (w + 7) (A 0 5) (c : Int)) (w + 8) (A 0 5) (x : Int)) w 9 ((A 0 5 : Int) + 1)
def G6w (M : aM) (w : Nat) (A : aA) (k : Nat) : aM := aup (aup M (w + 9) (A 0 6) (k : Int)) w 10 ((A 0 6 : Int) + 1)
def G7w (M : aM) (w : Nat) (A : aA) (a b m : Nat) : aM := aup (aup (aup (aup M (w + 10) (A 0 7) (a : Int)) (w + 11) (A 0 7) (b : Int)) w 12 (m : Int)) w 11 ((A 0 7 : Int) + 1)
theorem i18 {r : Nat} (h1 : 1 ≤ r) (h : r ≤ 8) : r = 1 ∨ r = 2 ∨ r = 3 ∨ r = 4 ∨ r = 5 ∨ r = 6 ∨ r = 7 ∨ r = 8 := by omega
theorem md0 {a b c : Nat} (h : MRd M w A) (hA : WFd A) (h0 : A 0 0 = 0) : MRd (G0w M w a b c) w (L0 A a b c) := by
  have b2 := h.2.2.1
  have g := h.2.1
  have g1 := g 1 (by decide) (by decide); have g2 := g 2 (by decide) (by decide); have g3 := g 3 (by decide) (by decide); have g4 := g 4 (by decide) (by decide); have g5 := g 5 (by decide) (by decide); have g6 := g 6 (by decide) (by decide); have g7 := g 7 (by decide) (by decide); have g8 := g 8 (by decide) (by decide)
  simp [cf] at g1 g2 g3 g4 g5 g6 g7 g8
  have hc : ∀ i, 1 ≤ i → L0 A a b c 0 i = A 0 i := fun i hi => by
    have : i ≠ 0 := by omega
    simp [L0, inc, up2, this]
  have hr : ∀ r, 2 ≤ r → ∀ k, L0 A a b c r k = A r k := fun r h2 k => by
    have q0 : r ≠ 0 := by omega
    have q1 : r ≠ 1 := by omega
    simp [L0, inc, up2, q0, q1]
  refine h.app (d := fun _ => 0) (fun i hi _ => ⟨hc i hi, by decide⟩) (fun r h2 _ k _ => hr r h2 k) ?_ (fun i h1 hi => ?_) ?_ (fun r h2 h15 q hq => ?_) (fun r h2 h15 hd => absurd hd (by decide))
  · simp [G0w, aup, L0, inc, up2, h0]
  · rcases i18 h1 hi with rfl | rfl | rfl | rfl | rfl | rfl | rfl | rfl <;> simp [G0w, aup, cf, L0, inc, up2, g1, g2, g3, g4, g5, g6, g7, g8]
  · obtain ⟨k1, k2, k3⟩ := b2
    simp [G0w, aup, L0, inc, up2, k1, k2, k3]
  · rcases r14 h2 h15 with rfl | rfl | rfl | rfl | rfl | rfl | rfl | rfl | rfl | rfl | rfl | rfl | rfl | rfl <;> simp [G0w, aup]
theorem md1 {m u : Nat} (h : MRd M w A) (h0 : A 0 0 = 1) : MRd (G1w M w A m u) w (L1 A m u) := by
  have hp := ap1 (m := m) (w := u) h0
  have b1 := h.1.1
  have b1b := h.1.2 h0
  rw [if_pos h0] at b1
  have b2 := h.2.2.1
  have g := h.2.1
  have g1 := g 1 (by decide) (by decide); have g2 := g 2 (by decide) (by decide); have g3 := g 3 (by decide) (by decide); have g4 := g 4 (by decide) (by decide); have g5 := g 5 (by decide) (by decide); have g6 := g 6 (by decide) (by decide); have g7 := g 7 (by decide) (by decide); have g8 := g 8 (by decide) (by decide)
  simp [cf] at g1 g2 g3 g4 g5 g6 g7 g8
  refine h.app (d := dl [1, 8]) (fun i _ hi => ⟨hp.2.1 i hi, hp.2.2.2.1 i hi⟩) hp.2.2.2.2.2.1 ?_ (fun i h1 hi => ?_) ?_ (fun r h2 h15 q hq => ?_) (fun r h2 h15 hd => ?_)
  · obtain ⟨k1, k2⟩ := b1b
    simp [G1w, nmW, aup, cf, ctr, mvl, L1, inc, nmA, up2, h0, b1, k1, k2]
  · rcases i18 h1 hi with rfl | rfl | rfl | rfl | rfl | rfl | rfl | rfl <;> simp [G1w, nmW, aup, cf, ctr, mvl, L1, inc, nmA, up2, g1, g2, g3, g4, g5, g6, g7, g8]
  · obtain ⟨k1, k2, k3⟩ := b2
    simp [G1w, nmW, aup, cf, ctr, mvl, L1, inc, nmA, up2, k1, k2, k3]
  · rcases r14 h2 h15 with rfl | rfl | rfl | rfl | rfl | rfl | rfl | rfl | rfl | rfl | rfl | rfl | rfl | rfl <;> simp [ctr] at hq <;> simp [G1w, nmW, aup, cf, ctr, mvl, L1, inc, nmA, up2] <;> omega
  · rcases r14 h2 h15 with rfl | rfl | rfl | rfl | rfl | rfl | rfl | rfl | rfl | rfl | rfl | rfl | rfl | rfl <;> first | (exact absurd hd (by decide)) | simp [G1w, nmW, aup, cf, ctr, mvl, L1, inc, nmA, up2]
theorem md2 {a b l m : Nat} (h : MRd M w A) (h0 : A 0 0 = 1) : MRd (G2w M w A a b l m) w (L2 A a b l m) := by
  have hp := ap2 (a := a) (b := b) (l := l) (m := m) h0
  have b1 := h.1.1
  have b1b := h.1.2 h0
  rw [if_pos h0] at b1
  have b2 := h.2.2.1
  have g := h.2.1
  have g1 := g 1 (by decide) (by decide); have g2 := g 2 (by decide) (by decide); have g3 := g 3 (by decide) (by decide); have g4 := g 4 (by decide) (by decide); have g5 := g 5 (by decide) (by decide); have g6 := g 6 (by decide) (by decide); have g7 := g 7 (by decide) (by decide); have g8 := g 8 (by decide) (by decide)
  simp [cf] at g1 g2 g3 g4 g5 g6 g7 g8
  refine h.app (d := dl [2]) (fun i _ hi => ⟨hp.2.1 i hi, hp.2.2.2.1 i hi⟩) hp.2.2.2.2.2.1 ?_ (fun i h1 hi => ?_) ?_ (fun r h2 h15 q hq => ?_) (fun r h2 h15 hd => ?_)
  · obtain ⟨k1, k2⟩ := b1b
    simp [G2w, nmW, aup, cf, ctr, mvl, L2, inc, nmA, up2, h0, b1, k1, k2]
  · rcases i18 h1 hi with rfl | rfl | rfl | rfl | rfl | rfl | rfl | rfl <;> simp [G2w, nmW, aup, cf, ctr, mvl, L2, inc, nmA, up2, g1, g2, g3, g4, g5, g6, g7, g8]
  · obtain ⟨k1, k2, k3⟩ := b2
    simp [G2w, nmW, aup, cf, ctr, mvl, L2, inc, nmA, up2, k1, k2, k3]
  · rcases r14 h2 h15 with rfl | rfl | rfl | rfl | rfl | rfl | rfl | rfl | rfl | rfl | rfl | rfl | rfl | rfl <;> simp [ctr] at hq <;> simp [G2w, nmW, aup, cf, ctr, mvl, L2, inc, nmA, up2] <;> omega
  · rcases r14 h2 h15 with rfl | rfl | rfl | rfl | rfl | rfl | rfl | rfl | rfl | rfl | rfl | rfl | rfl | rfl <;> first | (exact absurd hd (by decide)) | simp [G2w, nmW, aup, cf, ctr, mvl, L2, inc, nmA, up2]
theorem md3 {k c u : Nat} (h : MRd M w A) (h0 : A 0 0 = 1) : MRd (G3w M w A k c u) w (L3 A k c u) := by
  have hp := ap3 (k := k) (c := c) (w := u) h0
  have b1 := h.1.1
  have b1b := h.1.2 h0
  rw [if_pos h0] at b1
  have b2 := h.2.2.1
  have g := h.2.1
  have g1 := g 1 (by decide) (by decide); have g2 := g 2 (by decide) (by decide); have g3 := g 3 (by decide) (by decide); have g4 := g 4 (by decide) (by decide); have g5 := g 5 (by decide) (by decide); have g6 := g 6 (by decide) (by decide); have g7 := g 7 (by decide) (by decide); have g8 := g 8 (by decide) (by decide)
  simp [cf] at g1 g2 g3 g4 g5 g6 g7 g8
  refine h.app (d := dl [3, 8]) (fun i _ hi => ⟨hp.2.1 i hi, hp.2.2.2.1 i hi⟩) hp.2.2.2.2.2.1 ?_ (fun i h1 hi => ?_) ?_ (fun r h2 h15 q hq => ?_) (fun r h2 h15 hd => ?_)
  · obtain ⟨k1, k2⟩ := b1b
    simp [G3w, nmW, aup, cf, ctr, mvl, L3, inc, nmA, up2, h0, b1, k1, k2]
  · rcases i18 h1 hi with rfl | rfl | rfl | rfl | rfl | rfl | rfl | rfl <;> simp [G3w, nmW, aup, cf, ctr, mvl, L3, inc, nmA, up2, g1, g2, g3, g4, g5, g6, g7, g8]
  · obtain ⟨k1, k2, k3⟩ := b2
    simp [G3w, nmW, aup, cf, ctr, mvl, L3, inc, nmA, up2, k1, k2, k3]
  · rcases r14 h2 h15 with rfl | rfl | rfl | rfl | rfl | rfl | rfl | rfl | rfl | rfl | rfl | rfl | rfl | rfl <;> simp [ctr] at hq <;> simp [G3w, nmW, aup, cf, ctr, mvl, L3, inc, nmA, up2] <;> omega
  · rcases r14 h2 h15 with rfl | rfl | rfl | rfl | rfl | rfl | rfl | rfl | rfl | rfl | rfl | rfl | rfl | rfl <;> first | (exact absurd hd (by decide)) | simp [G3w, nmW, aup, cf, ctr, mvl, L3, inc, nmA, up2]
theorem md4 {c u : Nat} (h : MRd M w A) (h0 : A 0 0 = 1) : MRd (G4w M w A c u) w (L4 A c u) := by
  have hp := ap4 (c := c) (w := u) h0
  have b1 := h.1.1
  have b1b := h.1.2 h0
  rw [if_pos h0] at b1
  have b2 := h.2.2.1
  have g := h.2.1
  have g1 := g 1 (by decide) (by decide); have g2 := g 2 (by decide) (by decide); have g3 := g 3 (by decide) (by decide); have g4 := g 4 (by decide) (by decide); have g5 := g 5 (by decide) (by decide); have g6 := g 6 (by decide) (by decide); have g7 := g 7 (by decide) (by decide); have g8 := g 8 (by decide) (by decide)
  simp [cf] at g1 g2 g3 g4 g5 g6 g7 g8
  refine h.app (d := dl [4, 8]) (fun i _ hi => ⟨hp.2.1 i hi, hp.2.2.2.1 i hi⟩) hp.2.2.2.2.2.1 ?_ (fun i h1 hi => ?_) ?_ (fun r h2 h15 q hq => ?_) (fun r h2 h15 hd => ?_)
  · obtain ⟨k1, k2⟩ := b1b
    simp [G4w, nmW, aup, cf, ctr, mvl, L4, inc, nmA, up2, h0, b1, k1, k2]
  · rcases i18 h1 hi with rfl | rfl | rfl | rfl | rfl | rfl | rfl | rfl <;> simp [G4w, nmW, aup, cf, ctr, mvl, L4, inc, nmA, up2, g1, g2, g3, g4, g5, g6, g7, g8]
  · obtain ⟨k1, k2, k3⟩ := b2
    simp [G4w, nmW, aup, cf, ctr, mvl, L4, inc, nmA, up2, k1, k2, k3]
  · rcases r14 h2 h15 with rfl | rfl | rfl | rfl | rfl | rfl | rfl | rfl | rfl | rfl | rfl | rfl | rfl | rfl <;> simp [ctr] at hq <;> simp [G4w, nmW, aup, cf, ctr, mvl, L4, inc, nmA, up2] <;> omega
  · rcases r14 h2 h15 with rfl | rfl | rfl | rfl | rfl | rfl | rfl | rfl | rfl | rfl | rfl | rfl | rfl | rfl <;> first | (exact absurd hd (by decide)) | simp [G4w, nmW, aup, cf, ctr, mvl, L4, inc, nmA, up2]
theorem md5 {c x : Nat} (h : MRd M w A) (h0 : A 0 0 = 1) : MRd (G5w M w A c x) w (L5 A c x) := by
  have hp := ap5 (c := c) (x := x) h0
  have b1 := h.1.1
  have b1b := h.1.2 h0
  rw [if_pos h0] at b1
  have b2 := h.2.2.1
  have g := h.2.1
  have g1 := g 1 (by decide) (by decide); have g2 := g 2 (by decide) (by decide); have g3 := g 3 (by decide) (by decide); have g4 := g 4 (by decide) (by decide); have g5 := g 5 (by decide) (by decide); have g6 := g 6 (by decide) (by decide); have g7 := g 7 (by decide) (by decide); have g8 := g 8 (by decide) (by decide)
  simp [cf] at g1 g2 g3 g4 g5 g6 g7 g8
  refine h.app (d := dl [5]) (fun i _ hi => ⟨hp.2.1 i hi, hp.2.2.2.1 i hi⟩) hp.2.2.2.2.2.1 ?_ (fun i h1 hi => ?_) ?_ (fun r h2 h15 q hq => ?_) (fun r h2 h15 hd => ?_)
  · obtain ⟨k1, k2⟩ := b1b
    simp [G5w, nmW, aup, cf, ctr, mvl, L5, inc, nmA, up2, h0, b1, k1, k2]
  · rcases i18 h1 hi with rfl | rfl | rfl | rfl | rfl | rfl | rfl | rfl <;> simp [G5w, nmW, aup, cf, ctr, mvl, L5, inc, nmA, up2, g1, g2, g3, g4, g5, g6, g7, g8]
  · obtain ⟨k1, k2, k3⟩ := b2
    simp [G5w, nmW, aup, cf, ctr, mvl, L5, inc, nmA, up2, k1, k2, k3]
  · rcases r14 h2 h15 with rfl | rfl | rfl | rfl | rfl | rfl | rfl | rfl | rfl | rfl | rfl | rfl | rfl | rfl <;> simp [ctr] at hq <;> simp [G5w, nmW, aup, cf, ctr, mvl, L5, inc, nmA, up2] <;> omega
  · rcases r14 h2 h15 with rfl | rfl | rfl | rfl | rfl | rfl | rfl | rfl | rfl | rfl | rfl | rfl | rfl | rfl <;> first | (exact absurd hd (by decide)) | simp [G5w, nmW, aup, cf, ctr, mvl, L5, inc, nmA, up2]
theorem md6 {k : Nat} (h : MRd M w A) (h0 : A 0 0 = 1) : MRd (G6w M w A k) w (L6 A k) := by
  have hp := ap6 (k := k) h0
  have b1 := h.1.1
  have b1b := h.1.2 h0
  rw [if_pos h0] at b1
  have b2 := h.2.2.1
  have g := h.2.1
  have g1 := g 1 (by decide) (by decide); have g2 := g 2 (by decide) (by decide); have g3 := g 3 (by decide) (by decide); have g4 := g 4 (by decide) (by decide); have g5 := g 5 (by decide) (by decide); have g6 := g 6 (by decide) (by decide); have g7 := g 7 (by decide) (by decide); have g8 := g 8 (by decide) (by decide)
  simp [cf] at g1 g2 g3 g4 g5 g6 g7 g8
  refine h.app (d := dl [6]) (fun i _ hi => ⟨hp.2.1 i hi, hp.2.2.2.1 i hi⟩) hp.2.2.2.2.2.1 ?_ (fun i h1 hi => ?_) ?_ (fun r h2 h15 q hq => ?_) (fun r h2 h15 hd => ?_)
  · obtain ⟨k1, k2⟩ := b1b
    simp [G6w, nmW, aup, cf, ctr, mvl, L6, inc, nmA, up2, h0, b1, k1, k2]
  · rcases i18 h1 hi with rfl | rfl | rfl | rfl | rfl | rfl | rfl | rfl <;> simp [G6w, nmW, aup, cf, ctr, mvl, L6, inc, nmA, up2, g1, g2, g3, g4, g5, g6, g7, g8]
  · obtain ⟨k1, k2, k3⟩ := b2
    simp [G6w, nmW, aup, cf, ctr, mvl, L6, inc, nmA, up2, k1, k2, k3]
  · rcases r14 h2 h15 with rfl | rfl | rfl | rfl | rfl | rfl | rfl | rfl | rfl | rfl | rfl | rfl | rfl | rfl <;> simp [ctr] at hq <;> simp [G6w, nmW, aup, cf, ctr, mvl, L6, inc, nmA, up2] <;> omega
  · rcases r14 h2 h15 with rfl | rfl | rfl | rfl | rfl | rfl | rfl | rfl | rfl | rfl | rfl | rfl | rfl | rfl <;> first | (exact absurd hd (by decide)) | simp [G6w, nmW, aup, cf, ctr, mvl, L6, inc, nmA, up2]
theorem md7 {a b m : Nat} (h : MRd M w A) (h0 : A 0 0 = 1) : MRd (G7w M w A a b m) w (L7 A a b m) := by
  have hp := ap7 (a := a) (b := b) (m := m) h0
  have b1 := h.1.1
  have b1b := h.1.2 h0
  rw [if_pos h0] at b1
  have b2 := h.2.2.1
  have g := h.2.1
  have g1 := g 1 (by decide) (by decide); have g2 := g 2 (by decide) (by decide); have g3 := g 3 (by decide) (by decide); have g4 := g 4 (by decide) (by decide); have g5 := g 5 (by decide) (by decide); have g6 := g 6 (by decide) (by decide); have g7 := g 7 (by decide) (by decide); have g8 := g 8 (by decide) (by decide)
  simp [cf] at g1 g2 g3 g4 g5 g6 g7 g8
  refine h.app (d := dl [7]) (fun i _ hi => ⟨hp.2.1 i hi, hp.2.2.2.1 i hi⟩) hp.2.2.2.2.2.1 ?_ (fun i h1 hi => ?_) ?_ (fun r h2 h15 q hq => ?_) (fun r h2 h15 hd => ?_)
  · obtain ⟨k1, k2⟩ := b1b
    simp [G7w, nmW, aup, cf, ctr, mvl, L7, inc, nmA, up2, h0, b1, k1, k2]
  · rcases i18 h1 hi with rfl | rfl | rfl | rfl | rfl | rfl | rfl | rfl <;> simp [G7w, nmW, aup, cf, ctr, mvl, L7, inc, nmA, up2, g1, g2, g3, g4, g5, g6, g7, g8]
  · obtain ⟨k1, k2, k3⟩ := b2
    simp [G7w, nmW, aup, cf, ctr, mvl, L7, inc, nmA, up2, k1, k2, k3]
  · rcases r14 h2 h15 with rfl | rfl | rfl | rfl | rfl | rfl | rfl | rfl | rfl | rfl | rfl | rfl | rfl | rfl <;> simp [ctr] at hq <;> simp [G7w, nmW, aup, cf, ctr, mvl, L7, inc, nmA, up2] <;> omega
  · rcases r14 h2 h15 with rfl | rfl | rfl | rfl | rfl | rfl | rfl | rfl | rfl | rfl | rfl | rfl | rfl | rfl <;> first | (exact absurd hd (by decide)) | simp [G7w, nmW, aup, cf, ctr, mvl, L7, inc, nmA, up2]
/-- a line's frame -/
def kL (w : Nat) (M M' : aM) : Prop := (∀ k, k < 8 ∨ k = 12 ∨ k = 13 ∨ 15 < k → M' 138 k = M 138 k) ∧ ∀ m, m ≠ 138 → m < w ∨ w + 15 ≤ m → M' m = M m
theorem kL.trans {M M1 M2 : aM} (h : kL w M M1) (h2 : kL w M1 M2) : kL w M M2 := ⟨fun k hk => (h2.1 k hk).trans (h.1 k hk), fun m hm h3 => (h2.2 m hm h3).trans (h.2 m hm h3)⟩
theorem kG.kL {M' : aM} (h : kG M M') : kL w M M' := ⟨h.1, fun m hm _ => h.2 m hm⟩
theorem kL_up {c k : Nat} {v : Int} (hw : 154 ≤ w) (h : w ≤ c ∧ c < w + 15) : kL w M (aup M c k v) := ⟨fun q _ => by rw [aup_nc (by omega)], fun m _ h3 => aup_nc (by omega)⟩
end Mda
