/-! ===== the class's draft, a line more ===== -/
section Cda
variable {M E : aM} {A A' : aA} {d : Nat → Nat}
theorem ctr_in : ∀ r, r < 16 → 2 ≤ r → 1 ≤ ctr r ∧ ctr r ≤ 8 := by decide
theorem CD.app (h : CD M A) (hc : ∀ i, 1 ≤ i → i ≤ 8 → A' 0 i = A 0 i + d i ∧ d i ≤ 1) (hr : ∀ r, 2 ≤ r → r ≤ 15 → ∀ k, k < A 0 (ctr r) → A' r k = A r k) (e18 : ∀ i, i < 8 → E 18 i = (A' 0 i : Int)) (e17 : A' 0 0 = 1 → E 17 0 = (A' 1 0 : Int) ∧ E 17 1 = (A' 1 1 : Int) ∧ E 17 2 = (A' 1 2 : Int)) (e17b : E 17 4 = (A' 1 3 : Int) ∧ E 17 9 = (A' 1 4 : Int) ∧ E 17 18 = (A' 1 5 : Int)) (eold : ∀ r, 2 ≤ r → r ≤ 15 → ∀ k, k < A 0 (ctr r) → E (cll r) (off r + k) = M (cll r) (off r + k)) (enew : ∀ r, 2 ≤ r → r ≤ 15 → d (ctr r) = 1 → E (cll r) (off r + A 0 (ctr r)) = (A' r (A 0 (ctr r)) : Int)) (e22 : ∀ a b, a < 8 → b < 8 → E 22 (8 * a + b) = if wy A' a b < A' 0 2 then (wy A' a b : Int) + 1 else 0) (e16 : E 16 7 = 8 + (A' 0 8 : Int)) (el : ∀ i, i < 8 → E 31 i = M 31 i ∧ E 32 i = M 32 i) (er : E 1000001 = M 1000001) : CD E A' := by
  obtain ⟨a1, a2, a3, a4, a5, a6, a7, a8⟩ := h
  refine ⟨e18, e17, e17b, fun r h2 h15 k hk => ?_, e22, e16, fun i hi => ?_, by rw [er]; exact a8⟩
  · have hct := ctr_in r (by omega) h2
    have hcr := hc (ctr r) hct.1 hct.2
    by_cases hk2 : k < A 0 (ctr r)
    · rw [eold r h2 h15 k hk2, hr r h2 h15 k hk2]
      exact a4 r h2 h15 k hk2
    · have e : k = A 0 (ctr r) := by omega
      subst e
      exact enew r h2 h15 (by omega)
  · rw [(el i hi).1, (el i hi).2]
    exact a7 i hi
theorem wy_cong (h0 : A' 0 2 = A 0 2) (h : ∀ k, k < A 0 2 → A' 2 k = A 2 k ∧ A' 3 k = A 3 k) (a b : Nat) : wy A' a b = wy A a b := by
  unfold wy
  rw [h0]
  refine fst_cong fun k hk => ?_
  unfold wyp
  rw [(h k hk).1, (h k hk).2]
theorem aup_sf {c k : Nat} {v : Int} (h : M c k = v) : aup M c k v = M := by
  funext a b
  unfold aup
  by_cases e : a = c ∧ b = k
  · rw [if_pos e, e.1, e.2, h]
  · rw [if_neg e]
theorem kA_up {M' : aM} {c k : Nat} {v : Int} (h : kA M M') : kA (aup M c k v) (aup M' c k v) := by
  intro m hm
  funext b
  unfold aup
  rw [h m hm]
/-- the way told last -/
theorem wy_new (hA : WFd A) {a b l m : Nat} (ha : a < A 0 1) (hb : b < A 0 1) (hab : b ≠ a) (hw : ¬ wy A a b < A 0 2) (x y : Nat) : wy (L2 A a b l m) x y = if (x = a ∧ y = b) ∨ (x = b ∧ y = a) then A 0 2 else if wy A x y < A 0 2 then wy A x y else A 0 2 + 1 := by
  have c2 : L2 A a b l m 0 2 = A 0 2 + 1 := by simp [L2, inc, nmA, up2]
  have v2 : L2 A a b l m 2 (A 0 2) = (if b < a then b else a) := by simp [L2, inc, nmA, up2]
  have v3 : L2 A a b l m 3 (A 0 2) = (if b < a then a else b) := by simp [L2, inc, nmA, up2]
  have old : ∀ k, k < A 0 2 → L2 A a b l m 2 k = A 2 k ∧ L2 A a b l m 3 k = A 3 k := fun k hk => by
    have hne : k ≠ A 0 2 := by omega
    simp [L2, inc, nmA, up2, hne]
  have hold : ∀ k, k < A 0 2 → wyp (L2 A a b l m) x y k = wyp A x y k := fun k hk => by unfold wyp; rw [(old k hk).1, (old k hk).2]
  have hnew : wyp (L2 A a b l m) x y (A 0 2) = true ↔ (x = a ∧ y = b) ∨ (x = b ∧ y = a) := by
    rw [wyp_jn]
    unfold jn
    rw [v2, v3]
    by_cases hba : b < a
    · rw [if_pos hba, if_pos hba]; omega
    · rw [if_neg hba, if_neg hba]; omega
  show fst (wyp (L2 A a b l m) x y) (L2 A a b l m 0 2) = _
  rw [c2]
  by_cases hxy : (x = a ∧ y = b) ∨ (x = b ∧ y = a)
  · rw [if_pos hxy]
    refine fst_eq (by omega) (hnew.mpr hxy) fun k hk => ?_
    rw [hold k hk]
    have hwab : wy A x y = wy A a b := by
      rcases hxy with ⟨rfl, rfl⟩ | ⟨rfl, rfl⟩
      · rfl
      · exact wy_symm A _ _
    have hle := wy_le A x y
    exact fst_no (wyp A x y) (A 0 2) k (by have : wy A x y = fst (wyp A x y) (A 0 2) := rfl; omega)
  · rw [if_neg hxy]
    by_cases hlt : wy A x y < A 0 2
    · rw [if_pos hlt]
      refine fst_eq (by omega) ?_ fun k hk => ?_
      · rw [hold _ hlt]; exact fst_yes (wyp A x y) (A 0 2) hlt
      · rw [hold k (by omega)]; exact fst_no (wyp A x y) (A 0 2) k hk
    · rw [if_neg hlt]
      refine fst_none fun k hk => ?_
      by_cases hk2 : k < A 0 2
      · rw [hold k hk2]
        exact fst_no (wyp A x y) (A 0 2) k (by have : wy A x y = fst (wyp A x y) (A 0 2) := rfl; omega)
      · rw [show k = A 0 2 by omega]
        cases hq : wyp (L2 A a b l m) x y (A 0 2)
        · rfl
        · exact absurd (hnew.mp hq) hxy
def E0 (M : aM) (a b c : Nat) : aM := aup (aup (aup M 17 0 (a : Int)) 17 1 (b : Int)) 17 2 (c : Int)
def E1 (M : aM) (A : aA) (m w : Nat) : aM := aup (nmM M A w 1) 17 4 (m : Int)
def E2 (M : aM) (A : aA) (a b l m : Nat) : aM := aup (aup (aup (aup (aup (aup M 19 (A 0 2) ((if b < a then b else a : Nat) : Int)) 20 (A 0 2) ((if b < a then a else b : Nat) : Int)) 21 (A 0 2) (l : Int)) 22 (8 * a + b) ((A 0 2 : Int) + 1)) 22 (8 * b + a) ((A 0 2 : Int) + 1)) 17 9 (m : Int)
def E3 (M : aM) (A : aA) (k c w : Nat) : aM := aup (aup (nmM M A w 3) 23 (A 0 3) (k : Int)) 24 (A 0 3) (c : Int)
def E4 (M : aM) (A : aA) (c w : Nat) : aM := aup (nmM M A w 4) 25 (A 0 4) (c : Int)
def E5 (M : aM) (A : aA) (c x : Nat) : aM := aup (aup M 26 (A 0 5) (c : Int)) 27 (A 0 5) (x : Int)
def E6 (M : aM) (A : aA) (k : Nat) : aM := aup M 28 (A 0 6) (k : Int)
def E7 (M : aM) (A : aA) (a b m : Nat) : aM := aup (aup (aup M 29 (A 0 7) (a : Int)) 30 (A 0 7) (b : Int)) 17 18 (m : Int)
theorem i8 {r : Nat} (h : r < 8) : r = 0 ∨ r = 1 ∨ r = 2 ∨ r = 3 ∨ r = 4 ∨ r = 5 ∨ r = 6 ∨ r = 7 := by omega
theorem cd1 {m w : Nat} (h : CD M A) (h0 : A 0 0 = 1) : CD (aup (E1 M A m w) 18 1 ((A 0 1 : Int) + 1)) (L1 A m w) := by
  have hp := ap1 (m := m) (w := w) h0
  have b17 := h.2.1 h0
  have b17b := h.2.2.1
  have b16 := h.2.2.2.2.2.1
  have b18 := h.1
  have g0 := b18 0 (by decide); have g1 := b18 1 (by decide); have g2 := b18 2 (by decide); have g3 := b18 3 (by decide); have g4 := b18 4 (by decide); have g5 := b18 5 (by decide); have g6 := b18 6 (by decide); have g7 := b18 7 (by decide)
  refine h.app (d := dl [1, 8]) (fun i _ hi => ⟨hp.2.1 i hi, hp.2.2.2.1 i hi⟩) hp.2.2.2.2.2.1 (fun i hi => ?_) (fun _ => ?_) ?_ (fun r h2 h15 q hq => ?_) (fun r h2 h15 hd => ?_) (fun x y hx hy => by
    have hwc := wy_cong (A' := L1 A m w) (A := A) (by simp [L1, inc, nmA, up2]) (fun q hq => ⟨hp.2.2.2.2.2.1 2 (by decide) (by decide) q hq, hp.2.2.2.2.2.1 3 (by decide) (by decide) q hq⟩) x y
    have hc2 : L1 A m w 0 2 = A 0 2 := by simp [L1, inc, nmA, up2]
    rw [hwc, hc2, ← h.2.2.2.2.1 x y hx hy]
    simp [E1, nmM, aup, cll, off, ctr, L1, inc, nmA, up2]) ?_ (fun i hi => ?_) ?_
  · rcases i8 hi with rfl | rfl | rfl | rfl | rfl | rfl | rfl | rfl <;> simp [E1, nmM, aup, cll, off, ctr, L1, inc, nmA, up2, g0, g1, g2, g3, g4, g5, g6, g7]
  · obtain ⟨k1, k2, k3⟩ := b17
    simp [E1, nmM, aup, cll, off, ctr, L1, inc, nmA, up2, k1, k2, k3]
  · obtain ⟨k1, k2, k3⟩ := b17b
    simp [E1, nmM, aup, cll, off, ctr, L1, inc, nmA, up2, k1, k2, k3]
  · rcases r14 h2 h15 with rfl | rfl | rfl | rfl | rfl | rfl | rfl | rfl | rfl | rfl | rfl | rfl | rfl | rfl <;> simp [ctr] at hq <;> simp [E1, nmM, aup, cll, off, ctr, L1, inc, nmA, up2] <;> omega
  · rcases r14 h2 h15 with rfl | rfl | rfl | rfl | rfl | rfl | rfl | rfl | rfl | rfl | rfl | rfl | rfl | rfl <;> first | (exact absurd hd (by decide)) | simp [E1, nmM, aup, cll, off, ctr, L1, inc, nmA, up2]
  · simp [E1, nmM, aup, cll, off, ctr, L1, inc, nmA, up2, b16] <;> omega
  · constructor
    · have : i ≠ 8 + A 0 8 := by omega
      simp [E1, nmM, aup, cll, off, ctr, L1, inc, nmA, up2, this]
    · have : i ≠ 8 + A 0 8 := by omega
      simp [E1, nmM, aup, cll, off, ctr, L1, inc, nmA, up2, this]
  · funext q; simp [E1, nmM, aup, cll, off, ctr, L1, inc, nmA, up2]
theorem cd2 {a b l m : Nat} (h : CD M A) (h0 : A 0 0 = 1) (hA : WFd A) (ha : a < A 0 1) (hb : b < A 0 1) (hab : b ≠ a) (hw : ¬ wy A a b < A 0 2) : CD (aup (E2 M A a b l m) 18 2 ((A 0 2 : Int) + 1)) (L2 A a b l m) := by
  have hp := ap2 (a := a) (b := b) (l := l) (m := m) h0
  have b17 := h.2.1 h0
  have b17b := h.2.2.1
  have b16 := h.2.2.2.2.2.1
  have b18 := h.1
  have g0 := b18 0 (by decide); have g1 := b18 1 (by decide); have g2 := b18 2 (by decide); have g3 := b18 3 (by decide); have g4 := b18 4 (by decide); have g5 := b18 5 (by decide); have g6 := b18 6 (by decide); have g7 := b18 7 (by decide)
  refine h.app (d := dl [2]) (fun i _ hi => ⟨hp.2.1 i hi, hp.2.2.2.1 i hi⟩) hp.2.2.2.2.2.1 (fun i hi => ?_) (fun _ => ?_) ?_ (fun r h2 h15 q hq => ?_) (fun r h2 h15 hd => ?_) (fun x y hx hy => by
    have h8 := hA.1.2.1
    have hc2 : L2 A a b l m 0 2 = A 0 2 + 1 := by simp [L2, inc, nmA, up2]
    have hE : aup (E2 M A a b l m) 18 2 ((A 0 2 : Int) + 1) 22 (8 * x + y) = if 8 * x + y = 8 * b + a then (A 0 2 : Int) + 1 else if 8 * x + y = 8 * a + b then (A 0 2 : Int) + 1 else M 22 (8 * x + y) := by
      unfold E2
      rw [aup_nc (by decide), aup_nc (by decide), aup_row, aup_row, aup_nc (by decide), aup_nc (by decide), aup_nc (by decide)]
    rw [hE, wy_new hA ha hb hab hw, hc2, h.2.2.2.2.1 x y hx hy]
    by_cases hxy : (x = a ∧ y = b) ∨ (x = b ∧ y = a)
    · rw [if_pos hxy, if_pos (show A 0 2 < A 0 2 + 1 by omega)]
      split
      · rfl
      · rw [if_pos (by omega)]
    · rw [if_neg hxy, if_neg (by omega), if_neg (by omega)]
      by_cases hlt : wy A x y < A 0 2
      · rw [if_pos hlt, if_pos hlt, if_pos (by omega)]
      · rw [if_neg hlt, if_neg hlt, if_neg (by omega)]) ?_ (fun i hi => ?_) ?_
  · rcases i8 hi with rfl | rfl | rfl | rfl | rfl | rfl | rfl | rfl <;> simp [E2, nmM, aup, cll, off, ctr, L2, inc, nmA, up2, g0, g1, g2, g3, g4, g5, g6, g7]
  · obtain ⟨k1, k2, k3⟩ := b17
    simp [E2, nmM, aup, cll, off, ctr, L2, inc, nmA, up2, k1, k2, k3]
  · obtain ⟨k1, k2, k3⟩ := b17b
    simp [E2, nmM, aup, cll, off, ctr, L2, inc, nmA, up2, k1, k2, k3]
  · rcases r14 h2 h15 with rfl | rfl | rfl | rfl | rfl | rfl | rfl | rfl | rfl | rfl | rfl | rfl | rfl | rfl <;> simp [ctr] at hq <;> simp [E2, nmM, aup, cll, off, ctr, L2, inc, nmA, up2] <;> omega
  · rcases r14 h2 h15 with rfl | rfl | rfl | rfl | rfl | rfl | rfl | rfl | rfl | rfl | rfl | rfl | rfl | rfl <;> first | (exact absurd hd (by decide)) | simp [E2, nmM, aup, cll, off, ctr, L2, inc, nmA, up2]
  · simp [E2, nmM, aup, cll, off, ctr, L2, inc, nmA, up2, b16] <;> omega
  · constructor
    · have : i ≠ 8 + A 0 8 := by omega
      simp [E2, nmM, aup, cll, off, ctr, L2, inc, nmA, up2, this]
    · have : i ≠ 8 + A 0 8 := by omega
      simp [E2, nmM, aup, cll, off, ctr, L2, inc, nmA, up2, this]
  · funext q; simp [E2, nmM, aup, cll, off, ctr, L2, inc, nmA, up2]
theorem cd3 {k c w : Nat} (h : CD M A) (h0 : A 0 0 = 1) : CD (aup (E3 M A k c w) 18 3 ((A 0 3 : Int) + 1)) (L3 A k c w) := by
  have hp := ap3 (k := k) (c := c) (w := w) h0
  have b17 := h.2.1 h0
  have b17b := h.2.2.1
  have b16 := h.2.2.2.2.2.1
  have b18 := h.1
  have g0 := b18 0 (by decide); have g1 := b18 1 (by decide); have g2 := b18 2 (by decide); have g3 := b18 3 (by decide); have g4 := b18 4 (by decide); have g5 := b18 5 (by decide); have g6 := b18 6 (by decide); have g7 := b18 7 (by decide)
  refine h.app (d := dl [3, 8]) (fun i _ hi => ⟨hp.2.1 i hi, hp.2.2.2.1 i hi⟩) hp.2.2.2.2.2.1 (fun i hi => ?_) (fun _ => ?_) ?_ (fun r h2 h15 q hq => ?_) (fun r h2 h15 hd => ?_) (fun x y hx hy => by
    have hwc := wy_cong (A' := L3 A k c w) (A := A) (by simp [L3, inc, nmA, up2]) (fun q hq => ⟨hp.2.2.2.2.2.1 2 (by decide) (by decide) q hq, hp.2.2.2.2.2.1 3 (by decide) (by decide) q hq⟩) x y
    have hc2 : L3 A k c w 0 2 = A 0 2 := by simp [L3, inc, nmA, up2]
    rw [hwc, hc2, ← h.2.2.2.2.1 x y hx hy]
    simp [E3, nmM, aup, cll, off, ctr, L3, inc, nmA, up2]) ?_ (fun i hi => ?_) ?_
  · rcases i8 hi with rfl | rfl | rfl | rfl | rfl | rfl | rfl | rfl <;> simp [E3, nmM, aup, cll, off, ctr, L3, inc, nmA, up2, g0, g1, g2, g3, g4, g5, g6, g7]
  · obtain ⟨k1, k2, k3⟩ := b17
    simp [E3, nmM, aup, cll, off, ctr, L3, inc, nmA, up2, k1, k2, k3]
  · obtain ⟨k1, k2, k3⟩ := b17b
    simp [E3, nmM, aup, cll, off, ctr, L3, inc, nmA, up2, k1, k2, k3]
  · rcases r14 h2 h15 with rfl | rfl | rfl | rfl | rfl | rfl | rfl | rfl | rfl | rfl | rfl | rfl | rfl | rfl <;> simp [ctr] at hq <;> simp [E3, nmM, aup, cll, off, ctr, L3, inc, nmA, up2] <;> omega
  · rcases r14 h2 h15 with rfl | rfl | rfl | rfl | rfl | rfl | rfl | rfl | rfl | rfl | rfl | rfl | rfl | rfl <;> first | (exact absurd hd (by decide)) | simp [E3, nmM, aup, cll, off, ctr, L3, inc, nmA, up2]
  · simp [E3, nmM, aup, cll, off, ctr, L3, inc, nmA, up2, b16] <;> omega
  · constructor
    · have : i ≠ 8 + A 0 8 := by omega
      simp [E3, nmM, aup, cll, off, ctr, L3, inc, nmA, up2, this]
    · have : i ≠ 8 + A 0 8 := by omega
      simp [E3, nmM, aup, cll, off, ctr, L3, inc, nmA, up2, this]
  · funext q; simp [E3, nmM, aup, cll, off, ctr, L3, inc, nmA, up2]
theorem cd4 {c w : Nat} (h : CD M A) (h0 : A 0 0 = 1) : CD (aup (E4 M A c w) 18 4 ((A 0 4 : Int) + 1)) (L4 A c w) := by
  have hp := ap4 (c := c) (w := w) h0
  have b17 := h.2.1 h0
  have b17b := h.2.2.1
  have b16 := h.2.2.2.2.2.1
  have b18 := h.1
  have g0 := b18 0 (by decide); have g1 := b18 1 (by decide); have g2 := b18 2 (by decide); have g3 := b18 3 (by decide); have g4 := b18 4 (by decide); have g5 := b18 5 (by decide); have g6 := b18 6 (by decide); have g7 := b18 7 (by decide)
  refine h.app (d := dl [4, 8]) (fun i _ hi => ⟨hp.2.1 i hi, hp.2.2.2.1 i hi⟩) hp.2.2.2.2.2.1 (fun i hi => ?_) (fun _ => ?_) ?_ (fun r h2 h15 q hq => ?_) (fun r h2 h15 hd => ?_) (fun x y hx hy => by
    have hwc := wy_cong (A' := L4 A c w) (A := A) (by simp [L4, inc, nmA, up2]) (fun q hq => ⟨hp.2.2.2.2.2.1 2 (by decide) (by decide) q hq, hp.2.2.2.2.2.1 3 (by decide) (by decide) q hq⟩) x y
    have hc2 : L4 A c w 0 2 = A 0 2 := by simp [L4, inc, nmA, up2]
    rw [hwc, hc2, ← h.2.2.2.2.1 x y hx hy]
    simp [E4, nmM, aup, cll, off, ctr, L4, inc, nmA, up2]) ?_ (fun i hi => ?_) ?_
  · rcases i8 hi with rfl | rfl | rfl | rfl | rfl | rfl | rfl | rfl <;> simp [E4, nmM, aup, cll, off, ctr, L4, inc, nmA, up2, g0, g1, g2, g3, g4, g5, g6, g7]
  · obtain ⟨k1, k2, k3⟩ := b17
    simp [E4, nmM, aup, cll, off, ctr, L4, inc, nmA, up2, k1, k2, k3]
  · obtain ⟨k1, k2, k3⟩ := b17b
    simp [E4, nmM, aup, cll, off, ctr, L4, inc, nmA, up2, k1, k2, k3]
  · rcases r14 h2 h15 with rfl | rfl | rfl | rfl | rfl | rfl | rfl | rfl | rfl | rfl | rfl | rfl | rfl | rfl <;> simp [ctr] at hq <;> simp [E4, nmM, aup, cll, off, ctr, L4, inc, nmA, up2] <;> omega
  · rcases r14 h2 h15 with rfl | rfl | rfl | rfl | rfl | rfl | rfl | rfl | rfl | rfl | rfl | rfl | rfl | rfl <;> first | (exact absurd hd (by decide)) | simp [E4, nmM, aup, cll, off, ctr, L4, inc, nmA, up2]
  · simp [E4, nmM, aup, cll, off, ctr, L4, inc, nmA, up2, b16] <;> omega
  · constructor
    · have : i ≠ 8 + A 0 8 := by omega
      simp [E4, nmM, aup, cll, off, ctr, L4, inc, nmA, up2, this]
    · have : i ≠ 8 + A 0 8 := by omega
      simp [E4, nmM, aup, cll, off, ctr, L4, inc, nmA, up2, this]
  · funext q; simp [E4, nmM, aup, cll, off, ctr, L4, inc, nmA, up2]
theorem cd5 {c x : Nat} (h : CD M A) (h0 : A 0 0 = 1) : CD (aup (E5 M A c x) 18 5 ((A 0 5 : Int) + 1)) (L5 A c x) := by
  have hp := ap5 (c := c) (x := x) h0
  have b17 := h.2.1 h0
  have b17b := h.2.2.1
  have b16 := h.2.2.2.2.2.1
  have b18 := h.1
  have g0 := b18 0 (by decide); have g1 := b18 1 (by decide); have g2 := b18 2 (by decide); have g3 := b18 3 (by decide); have g4 := b18 4 (by decide); have g5 := b18 5 (by decide); have g6 := b18 6 (by decide); have g7 := b18 7 (by decide)
  refine h.app (d := dl [5]) (fun i _ hi => ⟨hp.2.1 i hi, hp.2.2.2.1 i hi⟩) hp.2.2.2.2.2.1 (fun i hi => ?_) (fun _ => ?_) ?_ (fun r h2 h15 q hq => ?_) (fun r h2 h15 hd => ?_) (fun x1 y hx hy => by
    have hwc := wy_cong (A' := L5 A c x) (A := A) (by simp [L5, inc, nmA, up2]) (fun q hq => ⟨hp.2.2.2.2.2.1 2 (by decide) (by decide) q hq, hp.2.2.2.2.2.1 3 (by decide) (by decide) q hq⟩) x1 y
    have hc2 : L5 A c x 0 2 = A 0 2 := by simp [L5, inc, nmA, up2]
    rw [hwc, hc2, ← h.2.2.2.2.1 x1 y hx hy]
    simp [E5, nmM, aup, cll, off, ctr, L5, inc, nmA, up2]) ?_ (fun i hi => ?_) ?_
  · rcases i8 hi with rfl | rfl | rfl | rfl | rfl | rfl | rfl | rfl <;> simp [E5, nmM, aup, cll, off, ctr, L5, inc, nmA, up2, g0, g1, g2, g3, g4, g5, g6, g7]
  · obtain ⟨k1, k2, k3⟩ := b17
    simp [E5, nmM, aup, cll, off, ctr, L5, inc, nmA, up2, k1, k2, k3]
  · obtain ⟨k1, k2, k3⟩ := b17b
    simp [E5, nmM, aup, cll, off, ctr, L5, inc, nmA, up2, k1, k2, k3]
  · rcases r14 h2 h15 with rfl | rfl | rfl | rfl | rfl | rfl | rfl | rfl | rfl | rfl | rfl | rfl | rfl | rfl <;> simp [ctr] at hq <;> simp [E5, nmM, aup, cll, off, ctr, L5, inc, nmA, up2] <;> omega
  · rcases r14 h2 h15 with rfl | rfl | rfl | rfl | rfl | rfl | rfl | rfl | rfl | rfl | rfl | rfl | rfl | rfl <;> first | (exact absurd hd (by decide)) | simp [E5, nmM, aup, cll, off, ctr, L5, inc, nmA, up2]
  · simp [E5, nmM, aup, cll, off, ctr, L5, inc, nmA, up2, b16] <;> omega
  · constructor
    · have : i ≠ 8 + A 0 8 := by omega
      simp [E5, nmM, aup, cll, off, ctr, L5, inc, nmA, up2, this]
    · have : i ≠ 8 + A 0 8 := by omega
      simp [E5, nmM, aup, cll, off, ctr, L5, inc, nmA, up2, this]
  · funext q; simp [E5, nmM, aup, cll, off, ctr, L5, inc, nmA, up2]
theorem cd6 {k : Nat} (h : CD M A) (h0 : A 0 0 = 1) : CD (aup (E6 M A k) 18 6 ((A 0 6 : Int) + 1)) (L6 A k) := by
  have hp := ap6 (k := k) h0
  have b17 := h.2.1 h0
  have b17b := h.2.2.1
  have b16 := h.2.2.2.2.2.1
  have b18 := h.1
  have g0 := b18 0 (by decide); have g1 := b18 1 (by decide); have g2 := b18 2 (by decide); have g3 := b18 3 (by decide); have g4 := b18 4 (by decide); have g5 := b18 5 (by decide); have g6 := b18 6 (by decide); have g7 := b18 7 (by decide)
  refine h.app (d := dl [6]) (fun i _ hi => ⟨hp.2.1 i hi, hp.2.2.2.1 i hi⟩) hp.2.2.2.2.2.1 (fun i hi => ?_) (fun _ => ?_) ?_ (fun r h2 h15 q hq => ?_) (fun r h2 h15 hd => ?_) (fun x y hx hy => by
    have hwc := wy_cong (A' := L6 A k) (A := A) (by simp [L6, inc, nmA, up2]) (fun q hq => ⟨hp.2.2.2.2.2.1 2 (by decide) (by decide) q hq, hp.2.2.2.2.2.1 3 (by decide) (by decide) q hq⟩) x y
    have hc2 : L6 A k 0 2 = A 0 2 := by simp [L6, inc, nmA, up2]
    rw [hwc, hc2, ← h.2.2.2.2.1 x y hx hy]
    simp [E6, nmM, aup, cll, off, ctr, L6, inc, nmA, up2]) ?_ (fun i hi => ?_) ?_
  · rcases i8 hi with rfl | rfl | rfl | rfl | rfl | rfl | rfl | rfl <;> simp [E6, nmM, aup, cll, off, ctr, L6, inc, nmA, up2, g0, g1, g2, g3, g4, g5, g6, g7]
  · obtain ⟨k1, k2, k3⟩ := b17
    simp [E6, nmM, aup, cll, off, ctr, L6, inc, nmA, up2, k1, k2, k3]
  · obtain ⟨k1, k2, k3⟩ := b17b
    simp [E6, nmM, aup, cll, off, ctr, L6, inc, nmA, up2, k1, k2, k3]
  · rcases r14 h2 h15 with rfl | rfl | rfl | rfl | rfl | rfl | rfl | rfl | rfl | rfl | rfl | rfl | rfl | rfl <;> simp [ctr] at hq <;> simp [E6, nmM, aup, cll, off, ctr, L6, inc, nmA, up2] <;> omega
  · rcases r14 h2 h15 with rfl | rfl | rfl | rfl | rfl | rfl | rfl | rfl | rfl | rfl | rfl | rfl | rfl | rfl <;> first | (exact absurd hd (by decide)) | simp [E6, nmM, aup, cll, off, ctr, L6, inc, nmA, up2]
  · simp [E6, nmM, aup, cll, off, ctr, L6, inc, nmA, up2, b16] <;> omega
  · constructor
    · have : i ≠ 8 + A 0 8 := by omega
      simp [E6, nmM, aup, cll, off, ctr, L6, inc, nmA, up2, this]
    · have : i ≠ 8 + A 0 8 := by omega
      simp [E6, nmM, aup, cll, off, ctr, L6, inc, nmA, up2, this]
  · funext q; simp [E6, nmM, aup, cll, off, ctr, L6, inc, nmA, up2]
theorem cd7 {a b m : Nat} (h : CD M A) (h0 : A 0 0 = 1) : CD (aup (E7 M A a b m) 18 7 ((A 0 7 : Int) + 1)) (L7 A a b m) := by
  have hp := ap7 (a := a) (b := b) (m := m) h0
  have b17 := h.2.1 h0
  have b17b := h.2.2.1
  have b16 := h.2.2.2.2.2.1
  have b18 := h.1
  have g0 := b18 0 (by decide); have g1 := b18 1 (by decide); have g2 := b18 2 (by decide); have g3 := b18 3 (by decide); have g4 := b18 4 (by decide); have g5 := b18 5 (by decide); have g6 := b18 6 (by decide); have g7 := b18 7 (by decide)
  refine h.app (d := dl [7]) (fun i _ hi => ⟨hp.2.1 i hi, hp.2.2.2.1 i hi⟩) hp.2.2.2.2.2.1 (fun i hi => ?_) (fun _ => ?_) ?_ (fun r h2 h15 q hq => ?_) (fun r h2 h15 hd => ?_) (fun x y hx hy => by
    have hwc := wy_cong (A' := L7 A a b m) (A := A) (by simp [L7, inc, nmA, up2]) (fun q hq => ⟨hp.2.2.2.2.2.1 2 (by decide) (by decide) q hq, hp.2.2.2.2.2.1 3 (by decide) (by decide) q hq⟩) x y
    have hc2 : L7 A a b m 0 2 = A 0 2 := by simp [L7, inc, nmA, up2]
    rw [hwc, hc2, ← h.2.2.2.2.1 x y hx hy]
    simp [E7, nmM, aup, cll, off, ctr, L7, inc, nmA, up2]) ?_ (fun i hi => ?_) ?_
  · rcases i8 hi with rfl | rfl | rfl | rfl | rfl | rfl | rfl | rfl <;> simp [E7, nmM, aup, cll, off, ctr, L7, inc, nmA, up2, g0, g1, g2, g3, g4, g5, g6, g7]
  · obtain ⟨k1, k2, k3⟩ := b17
    simp [E7, nmM, aup, cll, off, ctr, L7, inc, nmA, up2, k1, k2, k3]
  · obtain ⟨k1, k2, k3⟩ := b17b
    simp [E7, nmM, aup, cll, off, ctr, L7, inc, nmA, up2, k1, k2, k3]
  · rcases r14 h2 h15 with rfl | rfl | rfl | rfl | rfl | rfl | rfl | rfl | rfl | rfl | rfl | rfl | rfl | rfl <;> simp [ctr] at hq <;> simp [E7, nmM, aup, cll, off, ctr, L7, inc, nmA, up2] <;> omega
  · rcases r14 h2 h15 with rfl | rfl | rfl | rfl | rfl | rfl | rfl | rfl | rfl | rfl | rfl | rfl | rfl | rfl <;> first | (exact absurd hd (by decide)) | simp [E7, nmM, aup, cll, off, ctr, L7, inc, nmA, up2]
  · simp [E7, nmM, aup, cll, off, ctr, L7, inc, nmA, up2, b16] <;> omega
  · constructor
    · have : i ≠ 8 + A 0 8 := by omega
      simp [E7, nmM, aup, cll, off, ctr, L7, inc, nmA, up2, this]
    · have : i ≠ 8 + A 0 8 := by omega
      simp [E7, nmM, aup, cll, off, ctr, L7, inc, nmA, up2, this]
  · funext q; simp [E7, nmM, aup, cll, off, ctr, L7, inc, nmA, up2]
end Cda
