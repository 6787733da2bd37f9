/-! ===== chase: rounds ===== -/
theorem exb_fst {p : Nat → Bool} {n : Nat} : exb p n = decide (fst p n < n) := by
  refine bool_ext ?_
  rw [exb_iff, decide_eq_true_eq]
  constructor
  · rintro ⟨y, hy, h⟩
    rcases Nat.lt_or_ge (fst p n) n with h1 | h1
    · exact h1
    · have := fst_no p n y (by omega)
      rw [h] at this; cases this
  · intro h; exact ⟨_, h, fst_yes p n h⟩
theorem ndf_none {a b : Nat} : ndf a b = 0 ↔ ∀ x, a.testBit x = true → b.testBit x = true := by
  constructor
  · intro h x hx
    have h1 := ndf_bit a b x
    rw [h, Nat.zero_testBit, hx, Bool.true_and] at h1
    cases hb : b.testBit x
    · rw [hb] at h1; cases h1
    · rfl
  · intro h
    refine Nat.eq_of_testBit_eq fun x => ?_
    rw [ndf_bit, Nat.zero_testBit]
    cases ha : a.testBit x
    · rfl
    · rw [h x ha]; rfl
/-- where one may go: on the spot, or one step -/
def arr (A : aA) (dr : Nat → Bool) (a b : Nat) : Bool := decide (a = b) || adj A dr a b
/-- had by some goings -/
def chW (A : aA) (dr : Nat → Bool) : Nat → Nat → Nat → Bool
  | 0, o, v => decide (o = v)
  | i + 1, o, v => chW A dr i o v || exb (fun t => arr A dr o t && (decide (t = v) || !exb (fun x => arr A dr v x && !chW A dr i t x) (A 0 1))) (A 0 1)
section Cha
variable {A : aA} {S : Nat → Int} {T w : Nat} {M M0 : aM} {dr : Nat → Bool}
theorem hif_iff {i o v : Nat} : exb (fun t => arr A dr o t && (decide (t = v) || !exb (fun x => arr A dr v x && !chW A dr i t x) (A 0 1))) (A 0 1) = true ↔ ∃ t, t < A 0 1 ∧ arr A dr o t = true ∧ (t = v ∨ ∀ x, x < A 0 1 → arr A dr v x = true → chW A dr i t x = true) := by
  rw [exb_iff]
  have h1 : ∀ t, (!exb (fun x => arr A dr v x && !chW A dr i t x) (A 0 1)) = true ↔ ∀ x, x < A 0 1 → arr A dr v x = true → chW A dr i t x = true := by
    intro t
    rw [Bool.not_eq_true']
    constructor
    · intro h x hx ha
      cases hc : chW A dr i t x
      · have : exb (fun x => arr A dr v x && !chW A dr i t x) (A 0 1) = true := (exb_iff _).mpr ⟨x, hx, by rw [ha, hc]; rfl⟩
        rw [h] at this; cases this
      · rfl
    · intro h
      cases he : exb (fun x => arr A dr v x && !chW A dr i t x) (A 0 1)
      · rfl
      · obtain ⟨x, hx, e⟩ := (exb_iff _).mp he
        rw [Bool.and_eq_true] at e
        rw [h x hx e.1] at e
        exact absurd e.2 (by decide)
  constructor
  · rintro ⟨t, ht, e⟩
    rw [Bool.and_eq_true, Bool.or_eq_true, decide_eq_true_eq, h1] at e
    exact ⟨t, ht, e⟩
  · rintro ⟨t, ht, e⟩
    refine ⟨t, ht, ?_⟩
    rw [Bool.and_eq_true, Bool.or_eq_true, decide_eq_true_eq, h1]
    exact e
theorem chW_iff (i o v : Nat) : chW A dr (i + 1) o v = true ↔ chW A dr i o v = true ∨ ∃ t, t < A 0 1 ∧ arr A dr o t = true ∧ (t = v ∨ ∀ x, x < A 0 1 → arr A dr v x = true → chW A dr i t x = true) := by
  rw [← hif_iff, ← Bool.or_eq_true]; rfl
theorem chW_up {i o v : Nat} (h : chW A dr i o v = true) : chW A dr (i + 1) o v = true := (chW_iff i o v).mpr (Or.inl h)
theorem chW_le {i o v : Nat} (h : chW A dr i o v = true) : ∀ j, chW A dr (i + j) o v = true
  | 0 => h
  | j + 1 => chW_up (chW_le h j)
theorem chW_to {i k o v : Nat} (h : chW A dr i o v = true) (hk : i ≤ k) : chW A dr k o v = true := by
  have := chW_le h (k - i)
  rw [show i + (k - i) = k by omega] at this
  exact this
theorem chW_self (i o : Nat) : chW A dr i o o = true := chW_to (i := 0) (decide_eq_true rfl) (Nat.zero_le i)
theorem chW_again {i : Nat} (h : ∀ t x, t < A 0 1 → x < A 0 1 → chW A dr (i + 1) t x = chW A dr i t x) (o v : Nat) : chW A dr (i + 2) o v = chW A dr (i + 1) o v := by
  refine bool_ext ⟨fun e => ?_, chW_up⟩
  rcases (chW_iff (i + 1) o v).mp e with e | ⟨t, ht, h1, h2⟩
  · exact e
  · refine (chW_iff i o v).mpr (Or.inr ⟨t, ht, h1, ?_⟩)
    rcases h2 with h2 | h2
    · exact Or.inl h2
    · exact Or.inr fun x hx ha => by rw [← h t x ht hx]; exact h2 x hx ha
theorem chW_stay {i : Nat} (h : ∀ t x, t < A 0 1 → x < A 0 1 → chW A dr (i + 1) t x = chW A dr i t x) : ∀ j t x, t < A 0 1 → x < A 0 1 → chW A dr (i + j) t x = chW A dr i t x
  | 0, t, x, _, _ => rfl
  | 1, t, x, ht, hx => h t x ht hx
  | j + 2, t, x, ht, hx => by
    have h1 : ∀ t x, t < A 0 1 → x < A 0 1 → chW A dr (i + j + 1) t x = chW A dr (i + j) t x := fun t x ht hx => by
      rw [chW_stay h j t x ht hx]
      exact chW_stay h (j + 1) t x ht hx
    have h2 := chW_again h1 t x
    show chW A dr (i + j + 2) t x = _
    rw [h2]
    exact chW_stay h (j + 1) t x ht hx
theorem chW_stop (hA : WF A) {i : Nat} (hi : 63 ≤ i) {o v : Nat} (ho : o < 8) (hv : v < 8) : chW A dr (i + 1) o v = chW A dr i o v := by
  have h8 := hA.1.2.1
  have key := grow_stop (n := 64) (fun i p => chW A dr i (p / 8) (p % 8)) (fun i p h => chW_up h) (fun i h p hp => ?_) (x0 := 0) (by decide) (decide_eq_true rfl) i (by omega) (8 * o + v) (by omega)
  · have e1 : (8 * o + v) / 8 = o := by omega
    have e2 : (8 * o + v) % 8 = v := by omega
    have key2 : chW A dr (i + 1) ((8 * o + v) / 8) ((8 * o + v) % 8) = chW A dr i ((8 * o + v) / 8) ((8 * o + v) % 8) := key
    rw [e1, e2] at key2
    exact key2
  · refine chW_again (fun t x ht hx => ?_) _ _
    have h1 : chW A dr (i + 1) ((8 * t + x) / 8) ((8 * t + x) % 8) = chW A dr i ((8 * t + x) / 8) ((8 * t + x) % 8) := h (8 * t + x) (by omega)
    rw [show (8 * t + x) / 8 = t by omega, show (8 * t + x) % 8 = x by omega] at h1
    exact h1
/-- how many goings; 64 if none will do -/
def gng (A : aA) (dr : Nat → Bool) (o v : Nat) : Nat := fst (fun i => chW A dr i o v) 64
theorem gng_le (o v : Nat) : gng A dr o v ≤ 64 := fst_le _ _
theorem gng_is {o v : Nat} (h : gng A dr o v < 64) : chW A dr (gng A dr o v) o v = true := by
  unfold gng at h ⊢
  exact fst_yes (fun i => chW A dr i o v) 64 h
theorem gng_of {i o v : Nat} (h : chW A dr i o v = true) : gng A dr o v ≤ i := by
  rcases Nat.lt_or_ge i (gng A dr o v) with h1 | h1
  · have := fst_no (fun i => chW A dr i o v) 64 i h1
    rw [h] at this; cases this
  · exact h1
theorem gng_lt (hA : WF A) {i o v : Nat} (ho : o < A 0 1) (hv : v < A 0 1) (h : chW A dr i o v = true) : gng A dr o v < 64 := by
  have h8 := hA.1.2.1
  by_cases hi : i < 64
  · have := gng_of h; omega
  · have h1 := chW_stay (i := 63) (fun t x ht hx => chW_stop (dr := dr) hA (Nat.le_refl _) (by omega) (by omega)) (i - 63) o v ho hv
    rw [show 63 + (i - 63) = i by omega, h] at h1
    have := gng_of h1.symm
    omega
theorem chW_gng (hA : WF A) {i o v : Nat} (ho : o < A 0 1) (hv : v < A 0 1) : chW A dr i o v = true ↔ gng A dr o v < 64 ∧ gng A dr o v ≤ i := ⟨fun h => ⟨gng_lt hA ho hv h, gng_of h⟩, fun h => chW_to (gng_is h.1) h.2⟩
/-- the worst that the voice can do -/
def wsx (A : aA) (dr : Nat → Bool) (D : Nat → Nat → Nat) (o v : Nat) : Nat → Nat
  | 0 => 0
  | i + 1 => if arr A dr v i = true then (if D o i ≤ wsx A dr D o v i then wsx A dr D o v i else D o i) else wsx A dr D o v i
def wst (A : aA) (dr : Nat → Bool) (D : Nat → Nat → Nat) (o v : Nat) : Nat := if o = v then 0 else wsx A dr D o v (A 0 1)
theorem wsx_le {D : Nat → Nat → Nat} {o v B : Nat} : ∀ i, (∀ x, x < i → arr A dr v x = true → D o x ≤ B) → wsx A dr D o v i ≤ B
  | 0, _ => Nat.zero_le _
  | i + 1, h => by
    have ih := wsx_le i (fun x hx => h x (by omega))
    unfold wsx
    split
    · rename_i ha
      split
      · exact ih
      · exact h i (by omega) ha
    · exact ih
theorem wsx_ge {D : Nat → Nat → Nat} {o v : Nat} : ∀ i x, x < i → arr A dr v x = true → D o x ≤ wsx A dr D o v i
  | 0, x, h, _ => absurd h (Nat.not_lt_zero _)
  | i + 1, x, h, ha => by
    unfold wsx
    by_cases e : x = i
    · subst e
      rw [if_pos ha]
      split <;> omega
    · have ih := wsx_ge (D := D) (o := o) i x (by omega) ha
      split
      · split <;> omega
      · exact ih
theorem wsx_map {D : Nat → Nat → Nat} {f : Nat → Nat} (h0 : f 0 = 0) (hm : ∀ a b, a ≤ b → f a ≤ f b) {o v : Nat} : ∀ i, wsx A dr (fun a b => f (D a b)) o v i = f (wsx A dr D o v i)
  | 0 => h0.symm
  | i + 1 => by
    have ih := wsx_map h0 hm (D := D) (o := o) (v := v) i
    unfold wsx
    rw [ih]
    split
    · by_cases h : D o i ≤ wsx A dr D o v i
      · rw [if_pos (hm _ _ h), if_pos h]
      · rw [if_neg h]
        have h1 := hm (wsx A dr D o v i) (D o i) (by omega)
        split
        · omega
        · rfl
    · rfl
theorem wst_map {D : Nat → Nat → Nat} {f : Nat → Nat} (h0 : f 0 = 0) (hm : ∀ a b, a ≤ b → f a ≤ f b) {o v : Nat} : wst A dr (fun a b => f (D a b)) o v = f (wst A dr D o v) := by
  unfold wst
  split
  · exact h0.symm
  · exact wsx_map h0 hm _
theorem wsx_cong {D E : Nat → Nat → Nat} {o v : Nat} : ∀ i, (∀ x, x < i → D o x = E o x) → wsx A dr D o v i = wsx A dr E o v i
  | 0, _ => rfl
  | i + 1, h => by
    unfold wsx
    rw [wsx_cong i (fun x hx => h x (by omega)), h i (by omega)]
theorem wst_cong {D E : Nat → Nat → Nat} {o v : Nat} (h : ∀ x, x < A 0 1 → D o x = E o x) : wst A dr D o v = wst A dr E o v := by
  unfold wst
  rw [wsx_cong _ h]
/-- as either side tells it -/
def cap (F n : Nat) : Nat := if n < 64 then n else F
theorem cap_mono {F : Nat} (hF : 64 ≤ F) (a b : Nat) (h : a ≤ b) : cap F a ≤ cap F b := by
  unfold cap
  split <;> split <;> omega
abbrev wq (A : aA) (dr : Nat → Bool) (o v : Nat) : Nat := wst A dr (gng A dr) o v
/-- the last going is so that one less is left -/
theorem gng_next (hA : WF A) {o v : Nat} (ho : o < A 0 1) (hv : v < A 0 1) (h0 : 0 < gng A dr o v) (h1 : gng A dr o v < 64) : ∃ t, t < A 0 1 ∧ arr A dr o t = true ∧ wq A dr t v + 1 = gng A dr o v := by
  obtain ⟨d, hd⟩ : ∃ d, gng A dr o v = d + 1 := ⟨gng A dr o v - 1, by omega⟩
  have h2 := gng_is h1
  rw [hd] at h2
  rcases (chW_iff d o v).mp h2 with h2 | ⟨t, ht, ha, h3⟩
  · have := gng_of h2; omega
  · refine ⟨t, ht, ha, ?_⟩
    have h4 : wq A dr t v ≤ d := by
      show (if t = v then 0 else wsx A dr (gng A dr) t v (A 0 1)) ≤ d
      split
      · exact Nat.zero_le _
      · rename_i hne
        refine wsx_le _ fun x hx hax => ?_
        rcases h3 with h3 | h3
        · exact absurd h3 hne
        · exact gng_of (h3 x hx hax)
    have h5 : d ≤ wq A dr t v := by
      rcases Nat.lt_or_ge (wq A dr t v) d with h6 | h6
      · have h7 : chW A dr (wq A dr t v + 1) o v = true := by
          refine (chW_iff _ o v).mpr (Or.inr ⟨t, ht, ha, ?_⟩)
          by_cases htv : t = v
          · exact Or.inl htv
          · refine Or.inr fun x hx hax => ?_
            have h8 : gng A dr t x ≤ wq A dr t v := by
              show _ ≤ (if t = v then 0 else wsx A dr (gng A dr) t v (A 0 1))
              rw [if_neg htv]
              exact wsx_ge _ x hx hax
            exact chW_to (gng_is (by omega)) h8
        have := gng_of h7
        omega
      · exact h6
    omega
theorem arr_lt (hA : WF A) {a b : Nat} (ha : a < A 0 1) (h : arr A dr a b = true) : b < A 0 1 := by
  unfold arr at h
  rw [Bool.or_eq_true, decide_eq_true_eq] at h
  rcases h with h | h
  · omega
  · exact (adj_lt hA h).2.1
/-- around a cave, as bits -/
theorem h_around (hA : WF A) (hL : LD M 39 A dr) {c : Nat} (hc : c < A 0 1) : f_X3_aroundOf T (c : Int) M = some ((nr A dr c ||| 2 ^ c : Nat) : Int) ∧ nr A dr c ||| 2 ^ c < 256 ∧ ∀ x, (nr A dr c ||| 2 ^ c).testBit x = arr A dr c x := by
  have h8 := hA.1.2.1
  have h1 := nr_lt A dr c
  have h2 : 2 ^ c < 2 ^ 8 := Nat.pow_lt_pow_right (by decide) (by omega)
  refine ⟨?_, Nat.or_lt_two_pow (n := 8) h1 h2, fun x => ?_⟩
  · unfold f_X3_aroundOf
    refine c_ite (by omega) ?_
    have e : M 40 c = ((nr A dr c : Nat) : Int) := hL.1 c (by omega)
    rw [Int.toNat_natCast, e, ashl_one c (by omega), aor_nat (by omega) (Nat.lt_trans h2 (by decide))]
  · rw [Nat.testBit_or, nr_bit hA, Nat.testBit_two_pow]
    unfold arr
    rw [Bool.or_comm]
/-- the class's rows within a round -/
def GR (M : aM) (A : aA) (dr : Nat → Bool) (i : Nat) (p : Nat → Nat → Bool) (s : Int × aM) : Prop :=
  sC M s.2 ∧ (∀ a c, a < A 0 1 → c < A 0 1 → s.2 55 (8 * a + c) = if (if p a c = true then chW A dr (i + 1) a c else chW A dr i a c) = true then ((gng A dr a c : Nat) : Int) else 1000000) ∧
  (∀ a, a < A 0 1 → s.2 56 a = ((msk (chW A dr i a) (A 0 1) : Nat) : Int)) ∧
  (∀ a, a < A 0 1 → s.2 57 a = ((msk (fun c => if p a c = true then chW A dr (i + 1) a c else chW A dr i a c) (A 0 1) : Nat) : Int)) ∧
  (s.1 = 0 ∨ s.1 = 1) ∧ (s.1 = 0 → ∀ a c, a < A 0 1 → c < A 0 1 → p a c = true → chW A dr (i + 1) a c = chW A dr i a c)
theorem h_hasIt (hA : WF A) (hC : CT M A) (hL : LD M 39 A dr) {i o v : Nat} (ho : o < A 0 1) (hv : v < A 0 1) (h56 : ∀ a, a < A 0 1 → M 56 a = ((msk (chW A dr i a) (A 0 1) : Nat) : Int)) : f_X3_hasItFrom T (o : Int) (v : Int) M = some (bI (exb (fun t => arr A dr o t && (decide (t = v) || !exb (fun x => arr A dr v x && !chW A dr i t x) (A 0 1))) (A 0 1))) := by
  have h8 := hA.1.2.1
  obtain ⟨a1, a2, a3⟩ := h_around (T := T) hA hL ho
  obtain ⟨b1, b2, b3⟩ := h_around (T := T) hA hL hv
  unfold f_X3_hasItFrom
  refine c_bind a1 ?_
  have hnone : ∀ t, t < A 0 1 → (aand ((nr A dr v ||| 2 ^ v : Nat) : Int) (axor ((msk (chW A dr i t) (A 0 1) : Nat) : Int) (-1)) = 0 ↔ (!exb (fun x => arr A dr v x && !chW A dr i t x) (A 0 1)) = true) := by
    intro t ht
    rw [aandn (by omega)]
    have e1 : (((ndf (nr A dr v ||| 2 ^ v) (msk (chW A dr i t) (A 0 1)) : Nat) : Int) = 0) ↔ ndf (nr A dr v ||| 2 ^ v) (msk (chW A dr i t) (A 0 1)) = 0 := by omega
    rw [e1, ndf_none, Bool.not_eq_true']
    constructor
    · intro h
      cases he : exb (fun x => arr A dr v x && !chW A dr i t x) (A 0 1)
      · rfl
      · obtain ⟨x, hx, e⟩ := (exb_iff _).mp he
        rw [Bool.and_eq_true] at e
        have h1 := h x (by rw [b3]; exact e.1)
        rw [msk_bit, Bool.and_eq_true] at h1
        rw [h1.2] at e
        exact absurd e.2 (by decide)
    · intro h x hx
      rw [b3] at hx
      have hxN := arr_lt hA hv hx
      rw [msk_bit, decide_eq_true hxN, Bool.true_and]
      cases hc : chW A dr i t x
      · have : exb (fun x => arr A dr v x && !chW A dr i t x) (A 0 1) = true := (exb_iff _).mpr ⟨x, hxN, by rw [hx, hc]; rfl⟩
        rw [h] at this; cases this
      · rfl
  have key := find_loop (fun n t => l_X3_hasItFrom_9 T (v : Int) ((nr A dr o ||| 2 ^ o : Nat) : Int) M (fun w14 => some 0) n t) (A 0 1) (fun t => arr A dr o t && (decide (t = v) || !exb (fun x => arr A dr v x && !chW A dr i t x) (A 0 1))) (fun _ => some 1) (y := some 0) (by omega) ?_ ?_ ?_
  · rw [exb_fst]
    refine Eq.trans key ?_
    by_cases h : fst (fun t => arr A dr o t && (decide (t = v) || !exb (fun x => arr A dr v x && !chW A dr i t x) (A 0 1))) (A 0 1) < A 0 1
    · rw [if_pos h, decide_eq_true h]; rfl
    · rw [if_neg h, decide_eq_false h]; rfl
  · intro t n ht hp
    show l_X3_hasItFrom_9 T (v : Int) _ M _ (n + 1) (t : Int) = _
    rw [l_X3_hasItFrom_9, hC.1 1 (by decide)]
    refine c_neg (by omega) (c_bind (h_hasBit (by omega) (by omega)) ?_)
    rw [a3]
    cases ha : arr A dr o t
    · exact c_pos rfl (c_ite (by omega) rfl)
    · rw [ha, Bool.true_and, Bool.or_eq_false_iff, decide_eq_false_iff_not] at hp
      refine c_neg (by decide) (c_neg (by omega) (c_bind b1 (c_ite (by omega) ?_)))
      rw [Int.toNat_natCast, h56 t ht]
      refine c_neg (fun e => ?_) (c_ite (by omega) rfl)
      rw [(hnone t ht).mp e] at hp
      exact absurd hp.2 (by decide)
  · intro t n ht hp
    show l_X3_hasItFrom_9 T (v : Int) _ M _ (n + 1) (t : Int) = _
    rw [Bool.and_eq_true, Bool.or_eq_true, decide_eq_true_eq] at hp
    rw [l_X3_hasItFrom_9, hC.1 1 (by decide)]
    refine c_neg (by omega) (c_bind (h_hasBit (by omega) (by omega)) ?_)
    rw [a3, hp.1]
    refine c_neg (by decide) ?_
    by_cases htv : t = v
    · exact c_pos (by omega) rfl
    · refine c_neg (by omega) (c_bind b1 (c_ite (by omega) ?_))
      rw [Int.toNat_natCast, h56 t ht]
      exact c_pos ((hnone t ht).mpr (hp.2.resolve_left htv)) rfl
  · intro n
    show l_X3_hasItFrom_9 T (v : Int) _ M _ (n + 1) ((A 0 1 : Nat) : Int) = _
    rw [l_X3_hasItFrom_9, hC.1 1 (by decide)]
    exact c_pos (Int.le_refl _) rfl
/-- gone through, row by row -/
def thr (o v a c : Nat) : Bool := decide (a < o) || (decide (a = o) && decide (c < v))
theorem thr_next {o v a c : Nat} (h : ¬ (a = o ∧ c = v)) : thr o (v + 1) a c = thr o v a c := by
  unfold thr
  have : (decide (a = o) && decide (c < v + 1)) = (decide (a = o) && decide (c < v)) := by
    by_cases h1 : a = o
    · rw [decide_eq_true h1, Bool.true_and, Bool.true_and, decide_eq_decide]; omega
    · rw [decide_eq_false h1, Bool.false_and, Bool.false_and]
  rw [this]
theorem thr_here {o v : Nat} : thr o v o v = false ∧ thr o (v + 1) o v = true := by
  unfold thr
  rw [decide_eq_false (Nat.lt_irrefl o), decide_eq_true rfl, decide_eq_false (Nat.lt_irrefl v), decide_eq_true (Nat.lt_succ_self v)]
  exact ⟨rfl, rfl⟩
theorem thr_row {o a c N : Nat} (hc : c < N) : thr o N a c = thr (o + 1) 0 a c := by
  unfold thr
  rw [decide_eq_true hc, decide_eq_false (Nat.not_lt_zero c), Bool.and_true, Bool.and_false, Bool.or_false]
  refine bool_ext ?_
  rw [Bool.or_eq_true, decide_eq_true_eq, decide_eq_true_eq, decide_eq_true_eq]
  omega
theorem GR.cong {p q : Nat → Nat → Bool} {i : Nat} {s : Int × aM} (h : GR M A dr i p s) (e : ∀ a c, a < A 0 1 → c < A 0 1 → p a c = q a c) : GR M A dr i q s := by
  obtain ⟨h1, h2, h3, h4, h5, h6⟩ := h
  refine ⟨h1, fun a c ha hc => by rw [← e a c ha hc]; exact h2 a c ha hc, h3, fun a ha => ?_, h5, fun hf a c ha hc hq => h6 hf a c ha hc (by rw [e a c ha hc]; exact hq)⟩
  rw [h4 a ha]
  congr 1
  exact msk_cong fun c hc => by rw [e a c ha hc]
theorem h_once20 (h : CQ M A S) {i o : Nat} (hi : i < 64) (ho : o < A 0 1) {f : Int} {Z : aM} (hZ : GR M A (dS S) i (thr o 0) (f, Z)) (kk : Int → Int → aM → Option (Int × aM)) : ∃ s, GR M A (dS S) i (thr (o + 1) 0) s ∧ l_X3_goOnceMore_20 T ((i : Int) + 1) (o : Int) kk FU f 0 Z = kk s.1 (A 0 1) s.2 := by
  have hA := h.1
  have h8 := hA.1.2.1
  have keyI := for_inv (fun n v (s : Int × aM) => l_X3_goOnceMore_20 T ((i : Int) + 1) (o : Int) kk n s.1 (v : Int) s.2) (fun v s => GR M A (dS S) i (thr o v) s) (A 0 1) (fun v n s hv hs => ?_) (by omega) (f, Z) hZ
  · obtain ⟨s, hs, n, hl⟩ := keyI
    refine ⟨s, hs.cong (fun a c _ hc => thr_row hc), ?_⟩
    have e : l_X3_goOnceMore_20 T ((i : Int) + 1) (o : Int) kk FU f 0 Z = l_X3_goOnceMore_20 T ((i : Int) + 1) (o : Int) kk (n + 1) s.1 ((A 0 1 : Nat) : Int) s.2 := hl
    rw [e, l_X3_goOnceMore_20, (h.of hs.1).2.2.1.1 1 (by decide)]
    exact c_pos (Int.le_refl _) rfl
  · obtain ⟨f, Z⟩ := s
    obtain ⟨g1, g2, g3, g4, g5, g6⟩ := hs
    have hQ : CQ Z A S := h.of g1
    have e55 := g2 o v ho hv
    rw [thr_here.1, if_neg (show ¬ (false = true) by decide)] at e55
    have hidx : ((o : Int) * 8 + (v : Int)).toNat = 8 * o + v := by omega
    have hgl := gng_le (A := A) (dr := dS S) o v
    have stay : chW A (dS S) (i + 1) o v = chW A (dS S) i o v → GR M A (dS S) i (thr o (v + 1)) (f, Z) := by
      intro he
      have hsame : ∀ a c, (if thr o (v + 1) a c = true then chW A (dS S) (i + 1) a c else chW A (dS S) i a c) = (if thr o v a c = true then chW A (dS S) (i + 1) a c else chW A (dS S) i a c) := by
        intro a c
        by_cases hac : a = o ∧ c = v
        · obtain ⟨rfl, rfl⟩ := hac
          rw [thr_here.1, thr_here.2, if_pos rfl, if_neg (by decide), he]
        · rw [thr_next hac]
      refine ⟨g1, fun a c ha hc => by rw [hsame]; exact g2 a c ha hc, g3, fun a ha => ?_, g5, fun hf a c ha hc hp => ?_⟩
      · rw [g4 a ha]
        congr 1
        exact msk_cong fun c _ => (hsame a c).symm
      · by_cases hac : a = o ∧ c = v
        · obtain ⟨rfl, rfl⟩ := hac; exact he
        · rw [thr_next hac] at hp; exact g6 hf a c ha hc hp
    show ∃ s' : Int × aM, _ ∧ l_X3_goOnceMore_20 T ((i : Int) + 1) (o : Int) kk (n + 1) f (v : Int) Z = l_X3_goOnceMore_20 T ((i : Int) + 1) (o : Int) kk n s'.1 ((v + 1 : Nat) : Int) s'.2
    rw [l_X3_goOnceMore_20, hQ.2.2.1.1 1 (by decide), hidx]
    cases hW : chW A (dS S) i o v
    · rw [hW, if_neg (by decide)] at e55
      have hit := h_hasIt (T := T) hA hQ.2.2.1 hQ.2.2.2.2.1 ho hv g3
      cases hh : exb (fun t => arr A (dS S) o t && (decide (t = v) || !exb (fun x => arr A (dS S) v x && !chW A (dS S) i t x) (A 0 1))) (A 0 1)
      · rw [hh] at hit
        refine ⟨(f, Z), stay ?_, c_neg (by omega) (c_ite (by omega) (c_ite (by omega) (c_ite (by omega) (c_pos e55 (c_bind hit (c_pos rfl (c_ite (by omega) rfl)))))))⟩
        show (chW A (dS S) i o v || _) = _
        rw [hh, Bool.or_false]
      · rw [hh] at hit
        have hup : chW A (dS S) (i + 1) o v = true := (chW_iff i o v).mpr (Or.inr (hif_iff.mp hh))
        have hg : gng A (dS S) o v = i + 1 := by
          have q1 := gng_of hup
          have q2 : ¬ gng A (dS S) o v ≤ i := fun e => by
            have := (chW_gng hA ho hv).mpr ⟨gng_lt hA ho hv hup, e⟩
            rw [hW] at this; cases this
          omega
        have hmk := g4 o ho
        have h57 : aup Z 55 (8 * o + v) ((i : Int) + 1) 57 o = ((msk (fun c => if thr o v o c = true then chW A (dS S) (i + 1) o c else chW A (dS S) i o c) (A 0 1) : Nat) : Int) := by rw [aup_nc (by decide)]; exact hmk
        obtain ⟨mk2, hmk2⟩ : ∃ q : Int, q = ((msk (fun c => if thr o (v + 1) o c = true then chW A (dS S) (i + 1) o c else chW A (dS S) i o c) (A 0 1) : Nat) : Int) := ⟨_, rfl⟩
        refine ⟨(1, aup (aup Z 55 (8 * o + v) ((i : Int) + 1)) 57 o mk2), ⟨(g1.trans (sC_up (by decide))).trans (sC_up (by decide)), fun a c ha hc => ?_, fun a ha => ?_, fun a ha => ?_, Or.inr rfl, fun hf => absurd hf (show ¬ ((1 : Int) = 0) by decide)⟩, ?_⟩
        · show aup (aup Z 55 (8 * o + v) ((i : Int) + 1)) 57 o mk2 55 (8 * a + c) = _
          rw [aup_nc (by decide), aup_row]
          by_cases hac : a = o ∧ c = v
          · obtain ⟨rfl, rfl⟩ := hac
            rw [if_pos rfl, thr_here.2, if_pos rfl, hup, if_pos rfl, hg]; rfl
          · rw [if_neg (by omega), thr_next hac]
            exact g2 a c ha hc
        · show aup (aup Z 55 (8 * o + v) ((i : Int) + 1)) 57 o mk2 56 a = _
          rw [aup_nc (by decide), aup_nc (by decide)]
          exact g3 a ha
        · show aup (aup Z 55 (8 * o + v) ((i : Int) + 1)) 57 o mk2 57 a = _
          rw [aup_row]
          by_cases hao : a = o
          · rw [if_pos hao, hao]; exact hmk2
          · rw [if_neg hao, aup_nc (by decide)]
            refine (g4 a ha).trans (congrArg (fun q : Nat => (q : Int)) ?_)
            exact msk_cong fun c _ => by rw [thr_next (fun e => hao e.1)]
        · refine c_neg (by omega) (c_ite (by omega) (c_ite (by omega) (c_ite (by omega) (c_pos e55 (c_bind hit (c_neg (by decide) (c_some (c_ite (by omega) (c_some ?_)))))))))
          rw [Int.toNat_natCast, h57, ashl_one v (by omega), aor_nat (msk_lt31 _ (by omega)) (Nat.pow_lt_pow_right (a := 2) (n := 31) (by decide) (by omega))]
          have hor : msk (fun c => if thr o v o c = true then chW A (dS S) (i + 1) o c else chW A (dS S) i o c) (A 0 1) ||| 2 ^ v = msk (fun c => if thr o (v + 1) o c = true then chW A (dS S) (i + 1) o c else chW A (dS S) i o c) (A 0 1) := by
            refine Nat.eq_of_testBit_eq fun x => ?_
            rw [Nat.testBit_or, msk_bit, msk_bit, Nat.testBit_two_pow]
            by_cases hx : x = v
            · subst hx
              rw [decide_eq_true hv, thr_here.1, thr_here.2, if_pos rfl, hup, decide_eq_true rfl, Bool.or_true]; rfl
            · rw [decide_eq_false (show ¬ v = x from fun e => hx e.symm), Bool.or_false, thr_next (fun e => hx e.2)]
          rw [hor, ← hmk2]
          exact c_ite (by omega) rfl
    · rw [hW, if_pos rfl] at e55
      refine ⟨(f, Z), stay (by rw [chW_up hW, hW]), c_neg (by omega) (c_ite (by omega) (c_ite (by omega) (c_ite (by omega) (c_neg (by have e56 : Z 55 (8 * o + v) = ((gng A (dS S) o v : Nat) : Int) := e55; rw [e56]; omega) (c_ite (by omega) rfl)))))⟩
/-- a round -/
theorem h_once (h : CQ M A S) {i : Nat} (hi : i < 64) {Z : aM} (hZ : GR M A (dS S) i (fun _ _ => false) (0, Z)) : ∃ s : Int × aM, f_X3_goOnceMore T ((i : Int) + 1) Z = some (s.1, s.2) ∧ GR M A (dS S) (i + 1) (fun _ _ => false) (0, s.2) ∧ (s.1 = 0 ∨ s.1 = 1) ∧ (s.1 = 0 → ∀ a c, a < A 0 1 → c < A 0 1 → chW A (dS S) (i + 1) a c = chW A (dS S) i a c) := by
  have hA := h.1
  have h8 := hA.1.2.1
  unfold f_X3_goOnceMore
  have keyI := for_inv (fun n o (s : Int × aM) => l_X3_goOnceMore_4 T ((i : Int) + 1) (fun w23 w24 m26 => (some (acpy m26 57 56 0 0 8)).bind fun m28 => if w23 = 0 ∨ w23 = 1 then some (w23, m28) else none) n s.1 (o : Int) s.2) (fun o s => GR M A (dS S) i (thr o 0) s) (A 0 1) (fun o n s ho hs => ?_) (by omega) (0, Z) (hZ.cong (fun a c _ _ => by unfold thr; rw [decide_eq_false (Nat.not_lt_zero a), decide_eq_false (Nat.not_lt_zero c), Bool.and_false]; rfl))
  · obtain ⟨s, hs, n, hl⟩ := keyI
    obtain ⟨g1, g2, g3, g4, g5, g6⟩ := hs
    have hall : ∀ a c, a < A 0 1 → thr (A 0 1) 0 a c = true := fun a c ha => by unfold thr; rw [decide_eq_true ha]; rfl
    have e57 : ∀ a, a < A 0 1 → s.2 57 a = ((msk (chW A (dS S) (i + 1) a) (A 0 1) : Nat) : Int) := by
      intro a ha
      rw [g4 a ha]
      congr 1
      exact msk_cong fun c _ => by rw [hall a c ha, if_pos rfl]
    refine ⟨(s.1, acpy s.2 57 56 0 0 8), ?_, ⟨?_, fun a c ha hc => ?_, fun a ha => ?_, fun a ha => ?_, Or.inl rfl, fun _ a c _ _ hp => by cases hp⟩, g5, fun hf a c ha hc => g6 hf a c ha hc (hall a c ha)⟩
    · have e : l_X3_goOnceMore_4 T ((i : Int) + 1) (fun w23 w24 m26 => (some (acpy m26 57 56 0 0 8)).bind fun m28 => if w23 = 0 ∨ w23 = 1 then some (w23, m28) else none) FU 0 0 Z = l_X3_goOnceMore_4 T ((i : Int) + 1) (fun w23 w24 m26 => (some (acpy m26 57 56 0 0 8)).bind fun m28 => if w23 = 0 ∨ w23 = 1 then some (w23, m28) else none) (n + 1) s.1 ((A 0 1 : Nat) : Int) s.2 := hl
      rw [e, l_X3_goOnceMore_4, (h.of g1).2.2.1.1 1 (by decide)]
      exact c_pos (Int.le_refl _) (c_some (c_ite g5 rfl))
    · refine g1.trans ?_
      show sC s.2 (acpy s.2 57 56 0 0 8)
      rw [acpy_eq]
      exact sC_set (by decide)
    · show acpy s.2 57 56 0 0 8 55 (8 * a + c) = _
      rw [acpy_eq, setc_ne (by decide), g2 a c ha hc, hall a c ha, if_pos rfl, if_neg (show ¬ (false = true) by decide)]
    · show acpy s.2 57 56 0 0 8 56 a = _
      rw [acpy_eq, setc_at]
      show (if 0 ≤ a ∧ a < 0 + 8 then s.2 57 (0 + (a - 0)) else s.2 56 a) = _
      rw [if_pos (by omega), show 0 + (a - 0) = a by omega, e57 a ha]
    · show acpy s.2 57 56 0 0 8 57 a = _
      rw [acpy_eq, setc_ne (by decide), e57 a ha]
      congr 1
  · obtain ⟨f, Z⟩ := s
    obtain ⟨s', h1, h2⟩ := h_once20 (T := T) h hi ho hs (fun w18 w19 m20 => if aIn ((o : Int) + 1) then l_X3_goOnceMore_4 T ((i : Int) + 1) (fun w23 w24 m26 => (some (acpy m26 57 56 0 0 8)).bind fun m28 => if w23 = 0 ∨ w23 = 1 then some (w23, m28) else none) n w18 ((o : Int) + 1) m20 else none)
    refine ⟨s', h1, ?_⟩
    show l_X3_goOnceMore_4 T ((i : Int) + 1) _ (n + 1) f (o : Int) Z = l_X3_goOnceMore_4 T ((i : Int) + 1) _ n s'.1 ((o + 1 : Nat) : Int) s'.2
    have hq : CQ Z A S := h.of hs.1
    rw [l_X3_goOnceMore_4, hq.2.2.1.1 1 (by decide)]
    refine c_neg (by omega) ?_
    rw [h2]
    exact c_ite (by omega) rfl
end Cha
