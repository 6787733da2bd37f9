/-! ===== what the pure machine's values and stores are on the machine itself ===== -/
def cV (ad : Nat → Nat) (v : aV) : Value := match v.1 with
  | 0 => .int (Int32.ofInt v.2)
  | 1 => .long (Int64.ofInt v.2)
  | _ => if v.2 < 0 then .null else .ref (ad v.2.toNat)
/-- a value is of its kind, and its cell is named -/
def okV (top : Nat) (v : aV) : Prop := (v.1 = 0 ∧ aIn v.2) ∨ (v.1 = 1 ∧ aInL v.2) ∨ (v.1 = 2 ∧ (v.2 < 0 ∨ v.2.toNat < top ∨ 1000000 ≤ v.2.toNat))
def rng (top n k : Nat) (x : Int) : Prop := if (ash n).1 < 50 then okV top (aft (ash n).1 k, x) else if (ash n).1 = 102 then aInL x else if (ash n).1 = 101 then (-128 ≤ x ∧ x < 128) else if (ash n).1 = 103 then okV top (2, x) else aIn x
def okM (σ : aS) : Prop := ∀ n k, (n < σ.2.1 ∨ 1000000 ≤ n) → rng σ.2.1 n k (σ.1 n k)
def cF (ad : Nat → Nat) (M : aM) (n ci : Nat) : List Value := (List.range (afn ci)).map (fun k => cV ad (aft ci k, M n k))
def cE (cA : Nat → ClassId) (ad : Nat → Nat) (M : aM) (n : Nat) : va_E :=
  if (ash n).1 < 50 then .inr ((ash n).1, cF ad M n (ash n).1)
  else if (ash n).1 = 102 then .inl (cA 2, (ash n).2, .inr (.inl (fun j => Int64.ofInt (M n j))))
  else if (ash n).1 = 103 then .inl (cA 3, (ash n).2, .inr (.inr (.inr (.inr (fun j => if M n j < 0 then none else some (ad (M n j).toNat))))))
  else if (ash n).1 = 101 then .inl (cA 1, (ash n).2, .inl (fun j => Int32.ofInt (M n j)))
  else .inl (cA 0, (ash n).2, .inl (fun j => Int32.ofInt (M n j)))
def cW (cA : Nat → ClassId) (ad : Nat → Nat) (σ : aS) : va_W := (List.range σ.2.1).map (fun n => (ad n, cE cA ad σ.1 n))
def tyL (cA : Nat → ClassId) : List (ClassId × FieldType) := [(cA 0, .int), (cA 1, .byte), (cA 2, .long), (cA 3, .object RX8)]
/-- the locals -/
def IL (ad : Nat → Nat) (top nL : Nat) (L : List aV) (ls : Array Slot) : Prop := ls.size = nL ∧ L.length = nL ∧ lv_wf ls ∧ ∀ (i : Nat) (v : aV), L[i]? = some v → v.1 = 9 ∨ (okV top v ∧ ls[i]? = some (.val (cV ad v)))
/-- the store, on the heap -/
def IM (D : va_G) (cA : Nat → ClassId) (A : Nat → Prop) (H0 : Heap) (ad : Nat → Nat) (σ : aS) (H : Heap) (locs : List Loc) : Prop := va_P D vwCl (cW cA ad σ) H ∧ va_D A (cW cA ad σ) ∧ va_S A H0 H locs ∧ okM σ
theorem cW_at {cA : Nat → ClassId} {ad : Nat → Nat} {σ : aS} {n : Nat} (h : n < σ.2.1) : (cW cA ad σ)[n]? = some (ad n, cE cA ad σ.1 n) := by
  simp [cW, List.getElem?_map, List.getElem?_range h]
theorem cW_no {cA : Nat → ClassId} {ad : Nat → Nat} {σ : aS} {n : Nat} (h : ¬ n < σ.2.1) : (cW cA ad σ)[n]? = none := by
  simp [cW, h]
/-- the world of a store in which one cell has changed -/
theorem cW_set {cA : Nat → ClassId} {ad : Nat → Nat} {M M1 : aM} {x : Nat × Nat × Nat} {n : Nat} {e : va_E} (hn : n < x.1) (he : cE cA ad M1 n = e) (ho : ∀ k, k ≠ n → cE cA ad M1 k = cE cA ad M k) : (cW cA ad (M, x)).set n (ad n, e) = cW cA ad (M1, x) := by
  apply List.ext_getElem?
  intro k
  by_cases hk : k < x.1
  · by_cases hkn : k = n
    · subst hkn
      rw [List.getElem?_set_self (by simp [cW]; exact hk), cW_at (σ := (M1, x)) hk, he]
    · rw [List.getElem?_set_ne (fun h => hkn h.symm), cW_at (σ := (M, x)) hk, cW_at (σ := (M1, x)) hk, ho k hkn]
  · rw [cW_no (σ := (M1, x)) hk]
    simp [cW]
    omega
theorem cE_cong {cA : Nat → ClassId} {ad : Nat → Nat} {M M1 : aM} {n : Nat} (h : ∀ k, M1 n k = M n k) : cE cA ad M1 n = cE cA ad M n := by
  have : M1 n = M n := funext h
  simp only [cE, cF, this]
theorem aup_self (M : aM) (n k : Nat) (v : Int) : aup M n k v n k = v := by simp [aup]
theorem aup_ne {M : aM} {n k a b : Nat} {v : Int} (h : ¬ (a = n ∧ b = k)) : aup M n k v a b = M a b := by simp only [aup]; rw [if_neg h]
theorem aup_cell {M : aM} {n k a : Nat} {v : Int} (h : a ≠ n) : ∀ b, aup M n k v a b = M a b := fun b => aup_ne (fun q => h q.1)
/-- numbers -/
theorem i32_lt {a b : Int} (ha : aIn a) (hb : aIn b) : Int32.ofInt a < Int32.ofInt b ↔ a < b := by
  rw [Int32.lt_iff_toInt_lt, Int32.toInt_ofInt_of_le (by omega) (by omega), Int32.toInt_ofInt_of_le (by omega) (by omega)]
theorem i32_le {a b : Int} (ha : aIn a) (hb : aIn b) : Int32.ofInt a ≤ Int32.ofInt b ↔ a ≤ b := by
  rw [Int32.le_iff_toInt_le, Int32.toInt_ofInt_of_le (by omega) (by omega), Int32.toInt_ofInt_of_le (by omega) (by omega)]
theorem i32_toInt {a : Int} (ha : aIn a) : (Int32.ofInt a).toInt = a := Int32.toInt_ofInt_of_le (by omega) (by omega)
theorem i64_toInt {a : Int} (ha : aInL a) : (Int64.ofInt a).toInt = a := Int64.toInt_ofInt_of_le (by omega) (by omega)
theorem i32_eq {a b : Int} (ha : aIn a) (hb : aIn b) : Int32.ofInt a = Int32.ofInt b ↔ a = b := by
  constructor
  · intro h
    have := congrArg Int32.toInt h
    rwa [i32_toInt ha, i32_toInt hb] at this
  · intro h; rw [h]
theorem i32_of (x : Int32) : Int32.ofInt x.toInt = x := Int32.ofInt_toInt x
theorem i64_of (x : Int64) : Int64.ofInt x.toInt = x := Int64.ofInt_toInt x
theorem i32_rng (x : Int32) : aIn x.toInt := by
  have h1 := Int32.le_toInt x
  have h2 := Int32.toInt_lt x
  exact ⟨by omega, by omega⟩
theorem i64_rng (x : Int64) : aInL x.toInt := by
  have h1 := Int64.le_toInt x
  have h2 := Int64.toInt_lt x
  exact ⟨by omega, by omega⟩
theorem i32_add (a b : Int) : Int32.ofInt a + Int32.ofInt b = Int32.ofInt (a + b) := (Int32.ofInt_add a b).symm
theorem i32_sub (a b : Int) : Int32.ofInt a - Int32.ofInt b = Int32.ofInt (a - b) := (Int32.ofInt_sub a b).symm
theorem i32_mul (a b : Int) : Int32.ofInt a * Int32.ofInt b = Int32.ofInt (a * b) := (Int32.ofInt_mul a b).symm
theorem i64_add (a b : Int) : Int64.ofInt a + Int64.ofInt b = Int64.ofInt (a + b) := (Int64.ofInt_add a b).symm
theorem i64_sub (a b : Int) : Int64.ofInt a - Int64.ofInt b = Int64.ofInt (a - b) := (Int64.ofInt_sub a b).symm
theorem i64_mul (a b : Int) : Int64.ofInt a * Int64.ofInt b = Int64.ofInt (a * b) := (Int64.ofInt_mul a b).symm
theorem i32_neg (a : Int) : -Int32.ofInt a = Int32.ofInt (-a) := (Int32.ofInt_neg a).symm
theorem i32_clamp {a : Int} (ha : aIn a) (h0 : 0 ≤ a) : (Int32.ofInt a).toNatClampNeg = a.toNat := by
  show (Int32.ofInt a).toInt.toNat = a.toNat
  rw [i32_toInt ha]
theorem i32_in {a : Int} {n : Nat} (ha : aIn a) (h0 : 0 ≤ a) (h : a.toNat < n) : vp_in (Int32.ofInt a) n := by
  rw [vp_in_iff, i32_toInt ha]
  omega
