/-! ===== the text read: what both sides do, line by line ===== -/
abbrev rE : Type := Nat × Nat
/-- the number of a line's word; 8 if it is none -/
def lid (B : Nat → Int) (n p : Nat) : Nat := if kS B n p = 1 then fst (fun j => decide (kW B n p = pkd (12 + j))) 8 else 8
def isn (B : Nat → Int) (n p : Nat) : Bool := decide (kS B n p = 1) && decide (lid B n p = 8)
/-- the number of a name told; as many as there are if it is none -/
def fnn (A : aA) (w : Nat) : Nat := fst (fun i => decide (A 13 i = w)) (A 0 8)
def sWd (B : Nat → Int) (n k p : Nat) : Except rE Nat := if isw B n k p = true then .ok (kX B n p) else .error (1, p)
def sNu (B : Nat → Int) (n k lo hi p : Nat) : Except rE (Nat × Nat) := if isw B n k p = true then (if kS B n (kX B n p) = 2 then (if lo ≤ kN B n (kX B n p) ∧ kN B n (kX B n p) ≤ hi then .ok (kN B n (kX B n p), kX B n (kX B n p)) else .error (4, kX B n p)) else .error (1, kX B n p)) else .error (1, p)
def sCv (B : Nat → Int) (n : Nat) (A : aA) (p : Nat) : Except rE Nat := if isn B n p = true then (if fnn A (kW B n p) < A 0 8 ∧ A 14 (fnn A (kW B n p)) = 1 then .ok (A 15 (fnn A (kW B n p))) else .error (2, p)) else .error (1, p)
def sNw (B : Nat → Int) (n : Nat) (A : aA) (p : Nat) : Except rE Nat := if isn B n p = true then (if fnn A (kW B n p) < A 0 8 then .error (3, p) else .ok (kX B n p)) else .error (1, p)
def nmA (A : aA) (w sr nb : Nat) : aA := up2 (up2 (up2 (up2 A 13 (A 0 8) w) 14 (A 0 8) sr) 15 (A 0 8) nb) 0 8 (A 0 8 + 1)
def inc (A : aA) (j : Nat) : aA := up2 A 0 j (A 0 j + 1)
def L0 (A : aA) (a b c : Nat) : aA := inc (up2 (up2 (up2 A 1 0 a) 1 1 b) 1 2 c) 0
def L1 (A : aA) (m w : Nat) : aA := inc (nmA (up2 A 1 3 m) w 1 (A 0 1)) 1
def L2 (A : aA) (a b l m : Nat) : aA := inc (up2 (up2 (up2 (up2 A 2 (A 0 2) (if b < a then b else a)) 3 (A 0 2) (if b < a then a else b)) 4 (A 0 2) l) 1 4 m) 2
def L3 (A : aA) (k c w : Nat) : aA := inc (nmA (up2 (up2 A 5 (A 0 3) k) 6 (A 0 3) c) w 3 (A 0 3)) 3
def L4 (A : aA) (c w : Nat) : aA := inc (nmA (up2 A 7 (A 0 4) c) w 4 (A 0 4)) 4
def L5 (A : aA) (c x : Nat) : aA := inc (up2 (up2 A 8 (A 0 5) c) 9 (A 0 5) x) 5
def L6 (A : aA) (k : Nat) : aA := inc (up2 A 10 (A 0 6) k) 6
def L7 (A : aA) (a b m : Nat) : aA := inc (up2 (up2 (up2 A 11 (A 0 7) a) 12 (A 0 7) b) 1 5 m) 7
def sl0 (B : Nat → Int) (n : Nat) (A : aA) (p : Nat) : Except rE (aA × Nat) := (sNu B n 0 0 99 p).bind fun x => (sNu B n 1 0 100 x.2).bind fun y => (sNu B n 2 0 100 y.2).bind fun z => .ok (L0 A x.1 y.1 z.1, z.2)
def sl1 (B : Nat → Int) (n : Nat) (A : aA) (p : Nat) : Except rE (aA × Nat) := (sNw B n A p).bind fun p1 => if isw B n 3 p1 = true then .ok (L1 A (A 1 3 ||| 2 ^ A 0 1) (kW B n p), kX B n p1) else if isw B n 4 p1 = true then .ok (L1 A (A 1 3) (kW B n p), kX B n p1) else .error (1, p1)
def sl2 (B : Nat → Int) (n : Nat) (A : aA) (p : Nat) : Except rE (aA × Nat) := (sCv B n A p).bind fun a => (sCv B n A (kX B n p)).bind fun b => if b = a ∨ wy A a b < A 0 2 then .error (3, kX B n p) else (sNu B n 5 1 20 (kX B n (kX B n p))).bind fun x => if isw B n 6 x.2 = true then (if cntp (A 1 4).testBit 16 < 6 then .ok (L2 A a b x.1 (A 1 4 ||| 2 ^ A 0 2), kX B n x.2) else .error (5, x.2)) else if isw B n 7 x.2 = true then .ok (L2 A a b x.1 (A 1 4), kX B n x.2) else .error (1, x.2)
def sKd (B : Nat → Int) (n p : Nat) : Nat := if isw B n 20 p = true then 0 else if isw B n 21 p = true then 1 else if isw B n 22 p = true then 2 else if isw B n 23 p = true then 3 else 4
def sl3 (B : Nat → Int) (n : Nat) (A : aA) (p : Nat) : Except rE (aA × Nat) := (sNw B n A p).bind fun p1 => if sKd B n p1 = 4 then .error (1, p1) else (sWd B n 8 (kX B n p1)).bind fun p3 => (sCv B n A p3).bind fun c => .ok (L3 A (sKd B n p1) c (kW B n p), kX B n p3)
def sl4 (B : Nat → Int) (n : Nat) (A : aA) (p : Nat) : Except rE (aA × Nat) := (sNw B n A p).bind fun p1 => (sWd B n 8 p1).bind fun p2 => (sCv B n A p2).bind fun c => .ok (L4 A c (kW B n p), kX B n p2)
def sl5 (B : Nat → Int) (n : Nat) (A : aA) (p : Nat) : Except rE (aA × Nat) := (sCv B n A p).bind fun c => if exb (fun i => decide (A 8 i = c)) (A 0 5) = true then .error (3, p) else (sNu B n 9 0 400 (kX B n p)).bind fun x => .ok (L5 A c x.1, x.2)
def sl6 (B : Nat → Int) (n : Nat) (A : aA) (p : Nat) : Except rE (aA × Nat) := (sCv B n A p).bind fun a => (sCv B n A (kX B n p)).bind fun b => if b = a then .error (3, kX B n p) else if wy A a b < A 0 2 then (if exb (fun i => decide (A 10 i = wy A a b)) (A 0 6) = true then .error (3, kX B n p) else .ok (L6 A (wy A a b), kX B n (kX B n p))) else .error (7, kX B n p)
def sl7 (B : Nat → Int) (n : Nat) (A : aA) (p : Nat) : Except rE (aA × Nat) := (sCv B n A p).bind fun a => (sCv B n A (kX B n p)).bind fun b => if b = a then .error (3, kX B n p) else if isw B n 10 (kX B n (kX B n p)) = true then .ok (L7 A a b (A 1 5 ||| 2 ^ A 0 7), kX B n (kX B n (kX B n p))) else if isw B n 11 (kX B n (kX B n p)) = true then .ok (L7 A a b (A 1 5), kX B n (kX B n (kX B n p))) else .error (1, kX B n (kX B n p))
def rom (j : Nat) : Nat := [1, 8, 10, 3, 4, 4, 4, 5].getD j 0
def sBeg (B : Nat → Int) (n : Nat) (A : aA) (p : Nat) : Except rE Nat := if lid B n p = 8 then .error (1, p) else if lid B n p = 0 ∧ 0 < A 0 0 then .error (3, p) else if rom (lid B n p) ≤ A 0 (lid B n p) then .error (5, p) else if lid B n p ≠ 0 ∧ A 0 0 = 0 then .error (6, p) else .ok (lid B n p)
def sRest (B : Nat → Int) (n j : Nat) (A : aA) (p : Nat) : Except rE (aA × Nat) := if j = 0 then sl0 B n A p else if j = 1 then sl1 B n A p else if j = 2 then sl2 B n A p else if j = 3 then sl3 B n A p else if j = 4 then sl4 B n A p else if j = 5 then sl5 B n A p else if j = 6 then sl6 B n A p else sl7 B n A p
def sAll (B : Nat → Int) (n : Nat) : Nat → aA → Nat → Except rE aA
  | 0, _, _ => .error (0, 0)
  | f + 1, A, p => (sBeg B n A p).bind fun j => (sRest B n j A (kX B n p)).bind fun x => if kS B n x.2 = 0 then (if x.1 0 1 = 0 then .error (6, x.2) else .ok x.1) else if kS B n x.2 = 3 then sAll B n f x.1 (kX B n x.2) else .error (1, x.2)
/-- a well half told -/
def WFd (A : aA) : Prop :=
  (A 0 0 ≤ 1 ∧ A 0 1 ≤ 8 ∧ A 0 2 ≤ 10 ∧ A 0 3 ≤ 3 ∧ A 0 4 ≤ 4 ∧ A 0 5 ≤ 4 ∧ A 0 6 ≤ 4 ∧ A 0 7 ≤ 5) ∧
  (A 1 0 ≤ 99 ∧ A 1 1 ≤ 100 ∧ A 1 2 ≤ 100 ∧ A 1 3 < 256 ∧ A 1 4 < 2 ^ A 0 2 ∧ cut6 (A 1 4) ∧ A 1 5 < 32) ∧
  (∀ k, k < A 0 2 → A 2 k < A 3 k ∧ A 3 k < A 0 1 ∧ 1 ≤ A 4 k ∧ A 4 k ≤ 20) ∧
  (∀ k j, k < A 0 2 → j < A 0 2 → A 2 k = A 2 j → A 3 k = A 3 j → k = j) ∧
  (∀ k, k < A 0 3 → A 5 k < 4 ∧ A 6 k < A 0 1) ∧ (∀ k, k < A 0 4 → A 7 k < A 0 1) ∧
  (∀ k, k < A 0 5 → A 8 k < A 0 1 ∧ A 9 k ≤ 400) ∧ (∀ k, k < A 0 6 → A 10 k < A 0 2 ∧ ∀ j, j < A 0 6 → A 10 k = A 10 j → k = j) ∧
  (∀ k, k < A 0 7 → A 11 k < A 0 1 ∧ A 12 k < A 0 1) ∧
  (A 0 0 = 0 → (∀ i, A 0 i = 0) ∧ ∀ i, A 1 i = 0) ∧
  A 0 8 = A 0 1 + A 0 3 + A 0 4 ∧ ∀ i, i < A 0 8 → (A 14 i = 1 ∨ A 14 i = 3 ∨ A 14 i = 4) ∧ (A 14 i = 1 → A 15 i < A 0 1)
theorem WFd.wf {A : aA} (h : WFd A) (h1 : 1 ≤ A 0 1) : WF A := ⟨h.1, h.2.1, h.2.2.1, h.2.2.2.1, h.2.2.2.2.1, h.2.2.2.2.2.1, h.2.2.2.2.2.2.1, h.2.2.2.2.2.2.2.1, h.2.2.2.2.2.2.2.2.1, h.2.2.2.2.2.2.2.2.2.1, fun _ => h1⟩
theorem WFd.zero : WFd (fun _ _ => 0) := by
  refine ⟨by decide, ⟨by decide, by decide, by decide, by decide, by decide, ?_, by decide⟩, fun k hk => absurd hk (Nat.not_lt_zero k), fun k j hk => absurd hk (Nat.not_lt_zero k), fun k hk => absurd hk (Nat.not_lt_zero k), fun k hk => absurd hk (Nat.not_lt_zero k), fun k hk => absurd hk (Nat.not_lt_zero k), fun k hk => absurd hk (Nat.not_lt_zero k), fun k hk => absurd hk (Nat.not_lt_zero k), fun _ => ⟨fun _ => rfl, fun _ => rfl⟩, rfl, fun i hi => absurd hi (Nat.not_lt_zero i)⟩
  show cntp (0 : Nat).testBit 10 ≤ 6
  decide
section Spc
variable {B : Nat → Int} {n p : Nat} {A A' : aA} {q : Nat}
theorem sWd_ok {k p' : Nat} (h : sWd B n k p = .ok p') : isw B n k p = true ∧ p' = kX B n p := by
  unfold sWd at h
  split at h
  · rename_i e; cases h; exact ⟨e, rfl⟩
  · cases h
theorem sNu_ok {k lo hi : Nat} {x : Nat × Nat} (h : sNu B n k lo hi p = .ok x) : lo ≤ x.1 ∧ x.1 ≤ hi ∧ x.2 = kX B n (kX B n p) := by
  unfold sNu at h
  split at h
  · split at h
    · split at h
      · rename_i e; cases h; exact ⟨e.1, e.2, rfl⟩
      · cases h
    · cases h
  · cases h
theorem sCv_ok {c : Nat} (hA : WFd A) (h : sCv B n A p = .ok c) : c < A 0 1 := by
  unfold sCv at h
  split at h
  · split at h
    · rename_i e; cases h; exact (hA.2.2.2.2.2.2.2.2.2.2.2 _ e.1).2 e.2
    · cases h
  · cases h
theorem sNw_ok {p' : Nat} (h : sNw B n A p = .ok p') : p' = kX B n p ∧ isn B n p = true ∧ ¬ fnn A (kW B n p) < A 0 8 := by
  unfold sNw at h
  split at h
  · rename_i e1
    split at h
    · cases h
    · rename_i e; cases h; exact ⟨rfl, e1, e⟩
  · cases h
theorem kx_le (hp : p ≤ n) : kX B n p ≤ n := (kX_le hp).1
theorem kx_ge (hp : p ≤ n) : p ≤ kX B n p := by
  rcases Nat.lt_or_ge p n with h | h
  · have := (kX_le (B := B) hp).2 h; omega
  · have h1 := kE_le (B := B) hp
    have h2 := spq_le (B := B) h1.1
    have h3 : kE B n p = p := by unfold kE; rw [if_pos h]
    show p ≤ spq B n (kE B n p)
    rw [h3] at h2 ⊢
    exact h2.1
theorem ex_bind {α β : Type} {e : Except rE α} {f : α → Except rE β} {y : β} (h : e.bind f = .ok y) : ∃ x, e = .ok x ∧ f x = .ok y := by
  cases e with
  | error c => cases h
  | ok x => exact ⟨x, rfl, h⟩
theorem up2_at {V : Nat → Nat → Nat} {o k y : Nat} : up2 V o k y o k = y := if_pos ⟨rfl, rfl⟩
theorem up2_ne {V : Nat → Nat → Nat} {o k y a c : Nat} (h : a ≠ o ∨ c ≠ k) : up2 V o k y a c = V a c := if_neg (by omega)
end Spc
