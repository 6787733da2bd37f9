/-! ===== what ties the class's cells and the model's to the well as told and the state ===== -/
/-- the class's well -/
def CT (M : aM) (A : aA) : Prop :=
  (∀ i, i < 8 → M 3 i = (A 0 i : Int)) ∧
  (M 2 0 = (A 1 0 : Int) ∧ M 2 1 = (A 1 1 : Int) ∧ M 2 2 = (A 1 2 : Int) ∧ M 2 4 = (A 1 3 : Int) ∧ M 2 9 = (A 1 4 : Int) ∧ M 2 18 = (A 1 5 : Int)) ∧
  (∀ k, k < A 0 2 → M 4 k = (A 2 k : Int) ∧ M 5 k = (A 3 k : Int) ∧ M 6 k = (A 4 k : Int)) ∧
  (∀ a b, a < 8 → b < 8 → M 7 (8 * a + b) = if wy A a b < A 0 2 then (wy A a b : Int) + 1 else 0) ∧
  (∀ k, k < A 0 3 → M 8 k = (A 5 k : Int) ∧ M 9 k = (A 6 k : Int)) ∧ (∀ k, k < A 0 4 → M 10 k = (A 7 k : Int)) ∧
  (∀ k, k < A 0 5 → M 11 k = (A 8 k : Int) ∧ M 12 k = (A 9 k : Int)) ∧ (∀ k, k < A 0 6 → M 13 k = (A 10 k : Int)) ∧
  (∀ k, k < A 0 7 → M 14 k = (A 11 k : Int) ∧ M 15 k = (A 12 k : Int))
/-- the model's well, at a cell -/
def MW (M : aM) (w : Nat) (A : aA) : Prop :=
  (M w 0 = (A 1 0 : Int) ∧ M w 1 = (A 1 1 : Int) ∧ M w 2 = (A 1 2 : Int) ∧ M w 3 = (A 0 1 : Int) ∧ M w 4 = (A 1 3 : Int) ∧ M w 5 = (A 0 2 : Int) ∧ M w 6 = (A 1 4 : Int) ∧ M w 7 = (A 0 3 : Int) ∧ M w 8 = (A 0 4 : Int) ∧ M w 9 = (A 0 5 : Int) ∧ M w 10 = (A 0 6 : Int) ∧ M w 11 = (A 0 7 : Int) ∧ M w 12 = (A 1 5 : Int)) ∧
  (∀ k, k < A 0 2 → M (w + 1) k = (A 2 k : Int) ∧ M (w + 2) k = (A 3 k : Int) ∧ M (w + 3) k = (A 4 k : Int)) ∧
  (∀ k, k < A 0 3 → M (w + 4) k = (A 5 k : Int) ∧ M (w + 5) k = (A 6 k : Int)) ∧ (∀ k, k < A 0 4 → M (w + 6) k = (A 7 k : Int)) ∧
  (∀ k, k < A 0 5 → M (w + 7) k = (A 8 k : Int) ∧ M (w + 8) k = (A 9 k : Int)) ∧ (∀ k, k < A 0 6 → M (w + 9) k = (A 10 k : Int)) ∧
  (∀ k, k < A 0 7 → M (w + 10) k = (A 11 k : Int) ∧ M (w + 11) k = (A 12 k : Int))
/-- a state: voices' caves 0.., where from 3.., folk 6.., water 10, years 11 -/
def WS (A : aA) (S : Nat → Int) : Prop :=
  (∀ k, k < A 0 3 → 0 ≤ S k ∧ S k < (A 0 1 : Int) ∧ (S (3 + k) = -2 ∨ (0 ≤ S (3 + k) ∧ S (3 + k) < (A 0 1 : Int)))) ∧
  (∀ f, f < A 0 4 → 0 ≤ S (6 + f) ∧ S (6 + f) < (A 0 1 : Int)) ∧
  (0 ≤ S 10 ∧ (S 10).toNat < 2 ^ A 0 2 ∧ cut6 (S 10).toNat) ∧ (0 ≤ S 11 ∧ S 11 ≤ 999)
/-- a state of the class, at a cell -/
def CS (M : aM) (e : Nat) (A : aA) (S : Nat → Int) : Prop :=
  (∀ k, k < A 0 3 → M (e + 1) k = S k ∧ M (e + 2) k = S (3 + k)) ∧ (∀ f, f < A 0 4 → M (e + 3) f = S (6 + f)) ∧ M e 3 = S 10 ∧ M e 4 = S 11
/-- ways that are dry -/
def dry (s : Nat) (k : Nat) : Bool := !s.testBit k
/-- a land of the class, laid -/
def LD (M : aM) (e : Nat) (A : aA) (dr : Nat → Bool) : Prop :=
  (∀ c, c < 8 → M (e + 1) c = (nr A dr c : Int)) ∧ ∀ c t, c < A 0 1 → t < 8 → M (e + 2) (8 * c + t) = (cl (dst A dr c t) : Int)
/-- the square of the model, laid -/
def LM (M : aM) (A : aA) (dr : Nat → Bool) : Prop :=
  (∀ c, c < 8 → M 145 c = (nr A dr c : Int)) ∧ ∀ a b, a < 8 → b < 8 → M 144 (8 * a + b) = (dst A dr a b : Int)
/-- the number of a word -/
def wnum (l : List Nat) : Int := l.foldl (fun (v : Int) (b : Nat) => v * 32 + ((b : Int) - 97 + 1)) 0
def lineWords : List (List Nat) := [[119, 101, 108, 108], [99, 97, 118, 101], [119, 97, 121], [118, 111, 105, 99, 101], [102, 111, 108, 107], [101, 99, 104, 111], [117, 110, 115, 117, 114, 101], [116, 97, 108, 107]]
/-- the class -/
def CI (M : aM) (A : aA) (S : Nat → Int) (na ni : Nat) (P I : Nat → Nat → Int) : Prop :=
  CT M A ∧ CS M 35 A S ∧ LD M 39 A (dry (S 10).toNat) ∧ LD M 42 A (dry (A 1 4)) ∧
  (M 59 3 = (na : Int) ∧ M 59 4 = (ni : Int) ∧ ∃ np : Nat, np < 16 ∧ M 59 2 = (np : Int) ∧ ∀ i, i < na → CS M (62 + 4 * ((np + 16 - na + i) % 16)) A (P i)) ∧
  (∀ i, i < ni → CS M (126 + 4 * i) A (I i)) ∧ (∀ i, i < 8 → M 31 i = wnum (lineWords.getD i []) ∧ M 32 i = -1)
/-- the model -/
def MI (T : Nat) (M : aM) (A : aA) (S : Nat → Int) (na ni : Nat) (P I : Nat → Nat → Int) : Prop :=
  ((A 0 0 = 0 ∧ M 138 3 = -1) ∨ (A 0 0 = 1 ∧ okW T (M 138 3) ∧ MW M (M 138 3).toNat A)) ∧
  (∀ k, k < 12 → M 140 k = S k) ∧ M 138 20 = (na : Int) ∧ M 138 21 = (ni : Int) ∧
  (∀ i k, i < na → k < 12 → M 142 (12 * i + k) = P i k) ∧ ∀ i k, i < ni → k < 12 → M 143 (12 * i + k) = I i k
/-- the tape, and what is told of the last call -/
def TI (M : aM) : Prop :=
  (∃ tp : Nat, tp ≤ 900 ∧ M 0 1 = (tp : Int) ∧ M 138 6 = (tp : Int) ∧ ∀ k, k < tp → M 1 k = M 139 k ∧ -128 ≤ M 1 k ∧ M 1 k < 128) ∧
  M 0 14 = M 138 1 ∧ M 138 2 = (if M 0 14 = 4 then M 16 2 else -1) ∧ M 16 1 = M 138 12
def Inv (T : Nat) (M : aM) : Prop := ∃ (A : aA) (S : Nat → Int) (na ni : Nat) (P I : Nat → Nat → Int), WF A ∧ WS A S ∧ (na ≤ 16 ∧ ni ≤ 3 ∧ (A 0 0 = 0 → na = 0 ∧ ni = 0)) ∧ (∀ i, i < na → WS A (P i)) ∧ (∀ i, i < ni → WS A (I i)) ∧ CI M A S na ni P I ∧ MI T M A S na ni P I ∧ TI M
theorem c_some {α β : Type} {x : α} {f : α → Option β} {y : Option β} (h : f x = y) : (some x).bind f = y := h
def bI (b : Bool) : Int := if b then 1 else 0
theorem bI_0 {b : Bool} : bI b = 0 ↔ b = false := by cases b <;> decide
theorem bI_1 {b : Bool} : bI b = 1 ↔ b = true := by cases b <;> decide
theorem bI_n0 {b : Bool} : ¬ bI b = 0 ↔ b = true := by cases b <;> decide
theorem h_hasBit {T s k : Nat} {M : aM} (hs : s < 2147483648) (hk : k < 32) : f_X11_hasBit T (s : Int) (k : Int) M = some (bI (s.testBit k)) := by
  unfold f_X11_hasBit bI
  cases h : s.testBit k
  · rw [if_neg (fun e => by rw [(ahas1 hs hk).mp e] at h; cases h)]; rfl
  · rw [if_pos ((ahas1 hs hk).mpr h)]; rfl
theorem h_bit {T s k : Nat} {M : aM} (hs : s < 2147483648) (hk : k < 32) : f_X13_bit T (s : Int) (k : Int) M = some (bI (s.testBit k)) := h_hasBit (M := M) (T := T) hs hk
