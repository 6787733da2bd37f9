/-! ===== a year's step of a voice ===== -/
section Yr2
variable {A : aA} {S : Nat → Int} {T e w : Nat} {M M0 : aM}
/-- how far the nearest folk are -/
def nfk (A : aA) (S : Nat → Int) (c : Nat) : Nat → Nat
  | 0 => 9999
  | i + 1 => if dst A (dS S) c (S (6 + i)).toNat < nfk A S c i then dst A (dS S) c (S (6 + i)).toNat else nfk A S c i
abbrev nea (A : aA) (S : Nat → Int) (c : Nat) : Nat := nfk A S c (A 0 4)
theorem nfk_le (A : aA) (S : Nat → Int) (c : Nat) : ∀ i, nfk A S c i ≤ 9999
  | 0 => Nat.le_refl _
  | i + 1 => by
    have := nfk_le A S c i
    unfold nfk; split <;> omega
theorem nfk_iff {c l : Nat} (hl : l < 9999) : ∀ i, nfk A S c i ≤ l ↔ ∃ f, f < i ∧ dst A (dS S) c (S (6 + f)).toNat ≤ l
  | 0 => by
    constructor
    · intro h; have : nfk A S c 0 = 9999 := rfl; omega
    · rintro ⟨f, hf, -⟩; omega
  | i + 1 => by
    have ih := nfk_iff (c := c) hl i
    have e : nfk A S c (i + 1) = if dst A (dS S) c (S (6 + i)).toNat < nfk A S c i then dst A (dS S) c (S (6 + i)).toNat else nfk A S c i := rfl
    rw [e]
    constructor
    · intro h
      by_cases h2 : dst A (dS S) c (S (6 + i)).toNat < nfk A S c i
      · rw [if_pos h2] at h; exact ⟨i, by omega, h⟩
      · rw [if_neg h2] at h
        obtain ⟨f, hf, hd⟩ := ih.mp h
        exact ⟨f, by omega, hd⟩
    · rintro ⟨f, hf, hd⟩
      by_cases h2 : f = i
      · subst h2; split <;> omega
      · have := ih.mpr ⟨f, by omega, hd⟩
        split <;> omega
theorem cl_lt2 {a b : Nat} (ha : a ≤ 9999) (hb : b ≤ 9999) : ((cl a : Nat) : Int) < ((cl b : Nat) : Int) ↔ a < b := by
  unfold cl; split <;> split <;> omega
theorem cl_le2 {a b : Nat} (ha : a ≤ 9999) (hb : b ≤ 9999) : ((cl a : Nat) : Int) ≤ ((cl b : Nat) : Int) ↔ a ≤ b := by
  unfold cl; split <;> split <;> omega
/-- of the class what a year's step reads -/
def CY (M : aM) (A : aA) (S : Nat → Int) : Prop := WF A ∧ WS A S ∧ CT M A ∧ (∀ f, f < A 0 4 → M 38 f = S (6 + f)) ∧ LD M 39 A (dS S)
theorem CQ.cy (h : CQ M A S) : CY M A S := ⟨h.1, h.2.1, h.2.2.1, h.2.2.2.1.2.1, h.2.2.2.2.1⟩
theorem h_nearest (h : CY M A S) {c : Nat} (hc : c < A 0 1) : f_X1_nearestFolk T (c : Int) M = some (cl (nea A S c) : Int) := by
  obtain ⟨hA, hS, hC, h38, hL⟩ := h
  have h8 := hA.1.2.1
  have h4 := hA.1.2.2.2.2.1
  unfold f_X1_nearestFolk
  refine for_until (fun i n => l_X1_nearestFolk_5 T (c : Int) M (fun w6 w7 => some w6) n ((cl (nfk A S c i) : Nat) : Int) (i : Int)) (A 0 4) (fun i n hi => ?_) (fun n => ?_) (by omega)
  · obtain ⟨q, hq, hq2⟩ := hS.fo hi
    show l_X1_nearestFolk_5 T (c : Int) M _ (n + 1) _ (i : Int) = l_X1_nearestFolk_5 T (c : Int) M _ n ((cl (nfk A S c (i + 1)) : Nat) : Int) ((i + 1 : Nat) : Int)
    rw [l_X1_nearestFolk_5, hC.1 4 (by decide), Int.toNat_natCast, h38 i hi, hq]
    refine c_neg (by omega) (c_ite (by omega) (c_bind (h_span hL hA hc (by omega)) (c_ite (by omega) ?_)))
    have e : nfk A S c (i + 1) = if dst A (dS S) c q < nfk A S c i then dst A (dS S) c q else nfk A S c i := by
      show (if dst A (dS S) c (S (6 + i)).toNat < nfk A S c i then dst A (dS S) c (S (6 + i)).toNat else nfk A S c i) = _
      rw [hq, Int.toNat_natCast]
    have hle := dst_le (dr := dS S) hA c q
    have hn := nfk_le A S c i
    have e2 : (if ((cl (dst A (dS S) c q) : Nat) : Int) < ((cl (nfk A S c i) : Nat) : Int) then ((cl (dst A (dS S) c q) : Nat) : Int) else ((cl (nfk A S c i) : Nat) : Int)) = ((cl (nfk A S c (i + 1)) : Nat) : Int) := by
      rw [e]
      by_cases h2 : dst A (dS S) c q < nfk A S c i
      · rw [if_pos h2, if_pos ((cl_lt2 hle hn).mpr h2)]
      · rw [if_neg h2, if_neg (fun h => h2 ((cl_lt2 hle hn).mp h))]
    rw [e2]; rfl
  · show l_X1_nearestFolk_5 T (c : Int) M _ (n + 1) _ ((A 0 4 : Nat) : Int) = _
    rw [l_X1_nearestFolk_5, hC.1 4 (by decide)]
    exact c_pos (Int.le_refl _) rfl
/-- the model, in the middle of years -/
def MY (T : Nat) (M : aM) (w : Nat) (A : aA) (S : Nat → Int) : Prop := WF A ∧ WS A S ∧ MV T M w A ∧ LM M A (dS S) ∧ ∀ f, f < A 0 4 → M 141 (6 + f) = S (6 + f)
theorem g_nearest (h : MY T M w A S) {c : Nat} (hc : c < A 0 1) : f_X13_nearest T (c : Int) M = some (nea A S c : Int) := by
  obtain ⟨hA, hS, ⟨m1, m2, m3⟩, hL, hx⟩ := h
  have h8 := hA.1.2.1
  have h4 := hA.1.2.2.2.2.1
  unfold f_X13_nearest
  refine for_until (fun i n => l_X13_nearest_6 T (c : Int) M (fun w12 w13 => some w12) n ((nfk A S c i : Nat) : Int) (i : Int)) (A 0 4) (fun i n hi => ?_) (fun n => ?_) (by omega)
  · obtain ⟨q, hq, hq2⟩ := hS.fo hi
    show l_X13_nearest_6 T (c : Int) M _ (n + 1) _ (i : Int) = l_X13_nearest_6 T (c : Int) M _ n ((nfk A S c (i + 1) : Nat) : Int) ((i + 1 : Nat) : Int)
    have e : nfk A S c (i + 1) = if dst A (dS S) c q < nfk A S c i then dst A (dS S) c q else nfk A S c i := by
      show (if dst A (dS S) c (S (6 + i)).toNat < nfk A S c i then dst A (dS S) c (S (6 + i)).toNat else nfk A S c i) = _
      rw [hq, Int.toNat_natCast]
    rw [l_X13_nearest_6, m1, Int.toNat_natCast, m3.1.2.2.2.2.2.2.2.2.1, show (6 + (i : Int)).toNat = 6 + i by omega, hx i hi, hq, e]
    refine c_ite m2 (c_neg (by omega) (c_ite (by omega) (c_ite (by omega) (c_bind (g_apart hL (by omega) (by omega)) ?_))))
    by_cases h2 : dst A (dS S) c q < nfk A S c i
    · rw [if_pos h2]
      exact c_neg (by omega) (c_bind (g_apart hL (by omega) (by omega)) (c_ite (by omega) rfl))
    · refine c_pos (by omega) (c_ite (by omega) ?_)
      rw [if_neg h2]; rfl
  · show l_X13_nearest_6 T (c : Int) M _ (n + 1) _ ((A 0 4 : Nat) : Int) = _
    rw [l_X13_nearest_6, m1, Int.toNat_natCast, m3.1.2.2.2.2.2.2.2.2.1]
    exact c_ite m2 (c_pos (Int.le_refl _) rfl)
/-- to flee, to come near -/
def fls (A : aA) (S : Nat → Int) (c : Nat) (shy : Bool) : Nat → Nat
  | 0 => c
  | i + 1 => if adj A (dS S) c i = true ∧ (if shy then nea A S (fls A S c shy i) < nea A S i else nea A S i < nea A S (fls A S c shy i)) then i else fls A S c shy i
theorem fls_lt {c : Nat} (hc : c < A 0 1) (shy : Bool) : ∀ i, i ≤ A 0 1 → fls A S c shy i < A 0 1
  | 0, _ => hc
  | i + 1, h => by
    have ih := fls_lt hc shy i (by omega)
    by_cases h2 : adj A (dS S) c i = true ∧ (if shy then nea A S (fls A S c shy i) < nea A S i else nea A S i < nea A S (fls A S c shy i))
    · rw [show fls A S c shy (i + 1) = i from if_pos h2]; omega
    · rw [show fls A S c shy (i + 1) = fls A S c shy i from if_neg h2]; exact ih
theorem h_folkStep (h : CY M A S) {c : Nat} (hc : c < A 0 1) (bold : Bool) : f_X1_folkStep T (c : Int) (bI bold) M = some (fls A S c (!bold) (A 0 1) : Int) := by
  have hh := h
  obtain ⟨hA, hS, hC, h38, hL⟩ := h
  have h8 := hA.1.2.1
  unfold f_X1_folkStep
  refine c_bind (h_nearest hh hc) ?_
  refine for_until (fun i n => l_X1_folkStep_12 T (c : Int) (bI bold) M (fun w18 w19 w20 => some w18) n ((fls A S c (!bold) i : Nat) : Int) ((cl (nea A S (fls A S c (!bold) i)) : Nat) : Int) (i : Int)) (A 0 1) (fun i n hi => ?_) (fun n => ?_) (by omega)
  · show l_X1_folkStep_12 T (c : Int) (bI bold) M _ (n + 1) _ _ (i : Int) = l_X1_folkStep_12 T (c : Int) (bI bold) M _ n ((fls A S c (!bold) (i + 1) : Nat) : Int) ((cl (nea A S (fls A S c (!bold) (i + 1))) : Nat) : Int) ((i + 1 : Nat) : Int)
    have e : fls A S c (!bold) (i + 1) = if adj A (dS S) c i = true ∧ (if (!bold) = true then nea A S (fls A S c (!bold) i) < nea A S i else nea A S i < nea A S (fls A S c (!bold) i)) then i else fls A S c (!bold) i := rfl
    have n1 : nea A S i ≤ 9999 := nfk_le A S i (A 0 4)
    have n2 : nea A S (fls A S c (!bold) i) ≤ 9999 := nfk_le A S (fls A S c (!bold) i) (A 0 4)
    rw [l_X1_folkStep_12, hC.1 1 (by decide)]
    refine c_neg (by omega) (c_ite (by omega) ?_)
    rw [Int.toNat_natCast, show M 40 c = (nr A (dS S) c : Int) from hL.1 c (by omega)]
    refine c_bind (h_hasBit (Nat.lt_trans (nr_lt A (dS S) c) (by decide)) (by omega)) ?_
    rw [nr_bit hA]
    cases ha : adj A (dS S) c i
    · rw [e.trans (if_neg (by rw [ha]; rintro ⟨h, -⟩; cases h))]
      exact c_pos rfl (c_ite (by omega) rfl)
    · refine c_neg (by decide) (c_bind (h_nearest hh hi) ?_)
      cases bold
      · refine c_pos rfl ?_
        by_cases hq : nea A S (fls A S c (!false) i) < nea A S i
        · rw [e.trans (if_pos ⟨ha, hq⟩)]
          exact c_neg (fun h => absurd ((cl_le2 n1 n2).mp h) (by omega)) (c_ite (by omega) rfl)
        · rw [e.trans (if_neg (fun h => hq h.2))]
          exact c_pos ((cl_le2 n1 n2).mpr (by omega)) (c_ite (by omega) rfl)
      · refine c_neg (by decide) ?_
        by_cases hq : nea A S i < nea A S (fls A S c (!true) i)
        · rw [e.trans (if_pos ⟨ha, hq⟩)]
          exact c_neg (fun h => absurd ((cl_le2 n2 n1).mp h) (by omega)) (c_ite (by omega) rfl)
        · rw [e.trans (if_neg (fun h => hq h.2))]
          exact c_pos ((cl_le2 n2 n1).mpr (by omega)) (c_ite (by omega) rfl)
  · show l_X1_folkStep_12 T (c : Int) (bI bold) M _ (n + 1) _ _ ((A 0 1 : Nat) : Int) = _
    rw [l_X1_folkStep_12, hC.1 1 (by decide)]
    exact c_pos (Int.le_refl _) rfl
theorem g_flees (h : MY T M w A S) {c : Nat} (hc : c < A 0 1) (shy : Bool) : f_X13_flees T (c : Int) (bI shy) M = some (fls A S c shy (A 0 1) : Int) := by
  have hh := h
  obtain ⟨hA, hS, ⟨m1, m2, m3⟩, hL, hx⟩ := h
  have h8 := hA.1.2.1
  unfold f_X13_flees
  refine for_until (fun i n => l_X13_flees_5 T (c : Int) (bI shy) M (fun w23 w24 => some w23) n ((fls A S c shy i : Nat) : Int) (i : Int)) (A 0 1) (fun i n hi => ?_) (fun n => ?_) (by omega)
  · show l_X13_flees_5 T (c : Int) (bI shy) M _ (n + 1) _ (i : Int) = l_X13_flees_5 T (c : Int) (bI shy) M _ n ((fls A S c shy (i + 1) : Nat) : Int) ((i + 1 : Nat) : Int)
    have e : fls A S c shy (i + 1) = if adj A (dS S) c i = true ∧ (if shy = true then nea A S (fls A S c shy i) < nea A S i else nea A S i < nea A S (fls A S c shy i)) then i else fls A S c shy i := rfl
    have hfl := fls_lt (S := S) hc shy i (by omega)
    rw [l_X13_flees_5, m1, Int.toNat_natCast, m3.1.2.2.2.1]
    refine c_ite m2 (c_neg (by omega) (c_ite (by omega) ?_))
    rw [Int.toNat_natCast, hL.1 c (by omega)]
    refine c_bind (h_bit (Nat.lt_trans (nr_lt A (dS S) c) (by decide)) (by omega)) ?_
    rw [nr_bit hA]
    cases ha : adj A (dS S) c i
    · rw [e.trans (if_neg (by rw [ha]; rintro ⟨h, -⟩; cases h))]
      exact c_pos rfl (c_ite (by omega) rfl)
    · refine c_neg (by decide) ?_
      cases shy
      · refine c_pos rfl (c_bind (g_nearest hh hi) (c_bind (g_nearest hh hfl) ?_))
        by_cases hq : nea A S i < nea A S (fls A S c false i)
        · rw [e.trans (if_pos ⟨ha, hq⟩)]
          exact c_neg (by omega) (c_ite (by omega) rfl)
        · rw [e.trans (if_neg (fun h => hq h.2))]
          exact c_pos (by omega) (c_ite (by omega) rfl)
      · refine c_neg (by decide) (c_bind (g_nearest hh hi) (c_bind (g_nearest hh hfl) ?_))
        by_cases hq : nea A S (fls A S c true i) < nea A S i
        · rw [e.trans (if_pos ⟨ha, hq⟩)]
          exact c_neg (by omega) (c_ite (by omega) rfl)
        · rw [e.trans (if_neg (fun h => hq h.2))]
          exact c_pos (by omega) (c_ite (by omega) rfl)
  · show l_X13_flees_5 T (c : Int) (bI shy) M _ (n + 1) _ ((A 0 1 : Nat) : Int) = _
    rw [l_X13_flees_5, m1, Int.toNat_natCast, m3.1.2.2.2.1]
    exact c_ite m2 (c_pos (Int.le_refl _) rfl)
/-- to rove -/
def rvp (A : aA) (dr : Nat → Bool) (c : Nat) (came : Int) (n : Nat) : Bool := adj A dr c n && !decide ((n : Int) = came)
def rvs (A : aA) (dr : Nat → Bool) (c : Nat) (came : Int) : Nat := if fst (rvp A dr c came) (A 0 1) < A 0 1 then fst (rvp A dr c came) (A 0 1) else if nr A dr c = 0 then c else came.toNat
theorem nr_zero (hA : WF A) {dr : Nat → Bool} {c : Nat} (h : nr A dr c = 0) (n : Nat) : adj A dr c n = false := by
  rw [← nr_bit hA, h]; simp
theorem nr_some (hA : WF A) {dr : Nat → Bool} {c : Nat} (h : ¬ nr A dr c = 0) : ∃ n, n < A 0 1 ∧ adj A dr c n = true := by
  apply Classical.byContradiction
  intro h2
  apply h
  apply Nat.eq_of_testBit_eq
  intro i
  rw [nr_bit hA, Nat.zero_testBit]
  cases ha : adj A dr c i
  · rfl
  · exact absurd ⟨i, (adj_lt hA ha).2.1, ha⟩ h2
theorem rvs_fst {dr : Nat → Bool} (hA : WF A) {c : Nat} {came : Int} (hn : ¬ nr A dr c = 0) (hcame : came = -2) : fst (rvp A dr c came) (A 0 1) < A 0 1 := by
  obtain ⟨n, hn1, hn2⟩ := nr_some hA hn
  rcases Nat.lt_or_ge (fst (rvp A dr c came) (A 0 1)) (A 0 1) with h | h
  · exact h
  · have := fst_no (rvp A dr c came) (A 0 1) n (by omega)
    unfold rvp at this
    rw [hn2, decide_eq_false (by omega)] at this
    cases this
theorem rvs_lt {dr : Nat → Bool} (hA : WF A) {c : Nat} {came : Int} (hc : c < A 0 1) (hcame : came = -2 ∨ (0 ≤ came ∧ came < (A 0 1 : Int))) : rvs A dr c came < A 0 1 := by
  unfold rvs
  split
  · rename_i h; exact h
  · split
    · exact hc
    · rename_i h1 h2
      rcases hcame with h | h
      · exact absurd (rvs_fst hA h2 h) h1
      · omega
theorem h_roverStep (hA : WF A) (hC : CT M A) {dr : Nat → Bool} (hL : LD M 39 A dr) {c : Nat} {came : Int} (hc : c < A 0 1) (hcame : came = -2 ∨ (0 ≤ came ∧ came < (A 0 1 : Int))) : f_X1_roverStep T (c : Int) came M = some (rvs A dr c came : Int) := by
  have h8 := hA.1.2.1
  have hnr := Nat.lt_trans (nr_lt A dr c) (by decide : 256 < 2147483648)
  unfold f_X1_roverStep
  rw [Int.toNat_natCast, show M 40 c = (nr A dr c : Int) from hL.1 c (by omega)]
  refine c_ite (by omega) ?_
  by_cases h0 : nr A dr c = 0
  · refine c_pos (by omega) ?_
    unfold rvs
    rw [fst_none (fun k _ => by unfold rvp; rw [nr_zero hA h0]; rfl), if_neg (Nat.lt_irrefl _), if_pos h0]
  · refine c_neg (by omega) ?_
    have loop : ∀ bits : Nat, bits < 2147483648 → (∀ n, n < A 0 1 → bits.testBit n = rvp A dr c came n) → l_X1_roverStep_36 T came (bits : Int) M (fun _ => some came) FU 0 = if fst (rvp A dr c came) (A 0 1) < A 0 1 then some ((fst (rvp A dr c came) (A 0 1) : Nat) : Int) else some came := by
      intro bits hb hbit
      refine find_loop (fun n i => l_X1_roverStep_36 T came (bits : Int) M (fun _ => some came) n i) (A 0 1) (rvp A dr c came) (fun i => some (i : Int)) (by omega) (fun i n hi hp => ?_) (fun i n hi hp => ?_) (fun n => ?_)
      · show l_X1_roverStep_36 T came (bits : Int) M _ (n + 1) (i : Int) = _
        rw [l_X1_roverStep_36, hC.1 1 (by decide)]
        refine c_neg (by omega) (c_bind (h_hasBit hb (by omega)) ?_)
        rw [hbit i hi, hp]
        exact c_pos rfl (c_ite (by omega) rfl)
      · show l_X1_roverStep_36 T came (bits : Int) M _ (n + 1) (i : Int) = _
        rw [l_X1_roverStep_36, hC.1 1 (by decide)]
        refine c_neg (by omega) (c_bind (h_hasBit hb (by omega)) ?_)
        rw [hbit i hi, hp]
        exact c_neg (by decide) rfl
      · show l_X1_roverStep_36 T came (bits : Int) M _ (n + 1) ((A 0 1 : Nat) : Int) = _
        rw [l_X1_roverStep_36, hC.1 1 (by decide)]
        exact c_pos (Int.le_refl _) rfl
    rcases hcame with hm | ⟨hm1, hm2⟩
    · have hf := rvs_fst (dr := dr) hA h0 hm
      refine c_neg (by omega) ?_
      rw [loop (nr A dr c) hnr (fun n _ => by rw [nr_bit hA]; unfold rvp; rw [decide_eq_false (by omega)]; cases adj A dr c n <;> rfl), if_pos hf]
      unfold rvs; rw [if_pos hf]
    · refine c_pos hm1 ?_
      obtain ⟨q, rfl⟩ : ∃ q : Nat, came = (q : Int) := ⟨came.toNat, by omega⟩
      rw [ashl_one q (by omega), aandn hnr, loop (ndf (nr A dr c) (2 ^ q)) (ndf_lt hnr) (fun n hn => ?_)]
      · unfold rvs
        by_cases hf : fst (rvp A dr c (q : Int)) (A 0 1) < A 0 1
        · rw [if_pos hf, if_pos hf]
        · rw [if_neg hf, if_neg hf, if_neg h0, Int.toNat_natCast]
      · rw [ndf_bit, nr_bit hA]
        unfold rvp
        by_cases hq : q = n
        · subst hq
          rw [Nat.testBit_two_pow_self, decide_eq_true rfl]
        · rw [Nat.testBit_two_pow_of_ne hq, decide_eq_false (by omega)]
theorem g_roves (hA : WF A) (hm : MV T M w A) {dr : Nat → Bool} (hL : LM M A dr) {c : Nat} {came : Int} (hc : c < A 0 1) (hcame : came = -2 ∨ (0 ≤ came ∧ came < (A 0 1 : Int))) : f_X13_roves T (c : Int) came M = some (rvs A dr c came : Int) := by
  have h8 := hA.1.2.1
  have hnr := Nat.lt_trans (nr_lt A dr c) (by decide : 256 < 2147483648)
  obtain ⟨m1, m2, m3⟩ := hm
  unfold f_X13_roves
  have := find_loop (fun n i => l_X13_roves_2 T (c : Int) came M (fun w10 => if 0 ≤ (c : Int) ∧ (c : Int) < 8 then if M 145 (c : Int).toNat = 0 then some (c : Int) else some came else none) n i) (A 0 1) (rvp A dr c came) (fun i => some (i : Int)) (y := some (if nr A dr c = 0 then (c : Int) else came)) (by omega) ?_ ?_ ?_
  · have e : l_X13_roves_2 T (c : Int) came M (fun w10 => if 0 ≤ (c : Int) ∧ (c : Int) < 8 then if M 145 (c : Int).toNat = 0 then some (c : Int) else some came else none) FU 0 = _ := this
    rw [e]
    unfold rvs
    by_cases hf : fst (rvp A dr c came) (A 0 1) < A 0 1
    · rw [if_pos hf, if_pos hf]
    · rw [if_neg hf, if_neg hf]
      by_cases h0 : nr A dr c = 0
      · rw [if_pos h0, if_pos h0]
      · rw [if_neg h0, if_neg h0]
        rcases hcame with h | h
        · exact absurd (rvs_fst hA h0 h) hf
        · rw [show ((came.toNat : Nat) : Int) = came by omega]
  · intro i n hi hp
    show l_X13_roves_2 T (c : Int) came M _ (n + 1) (i : Int) = _
    rw [l_X13_roves_2, m1, Int.toNat_natCast, m3.1.2.2.2.1, Int.toNat_natCast, hL.1 c (by omega)]
    refine c_ite m2 (c_neg (by omega) (c_ite (by omega) (c_bind (h_bit hnr (by omega)) ?_)))
    rw [nr_bit hA]
    unfold rvp at hp
    cases ha : adj A dr c i
    · exact c_pos rfl (c_ite (by omega) rfl)
    · rw [ha, Bool.true_and, Bool.not_eq_false', decide_eq_true_eq] at hp
      exact c_neg (by decide) (c_pos hp (c_ite (by omega) rfl))
  · intro i n hi hp
    show l_X13_roves_2 T (c : Int) came M _ (n + 1) (i : Int) = _
    rw [l_X13_roves_2, m1, Int.toNat_natCast, m3.1.2.2.2.1, Int.toNat_natCast, hL.1 c (by omega)]
    refine c_ite m2 (c_neg (by omega) (c_ite (by omega) (c_bind (h_bit hnr (by omega)) ?_)))
    rw [nr_bit hA]
    unfold rvp at hp
    rw [Bool.and_eq_true, Bool.not_eq_true', decide_eq_false_iff_not] at hp
    rw [hp.1]
    exact c_neg (by decide) (c_neg hp.2 rfl)
  · intro n
    show l_X13_roves_2 T (c : Int) came M _ (n + 1) ((A 0 1 : Nat) : Int) = _
    rw [l_X13_roves_2, m1, Int.toNat_natCast, m3.1.2.2.2.1]
    refine c_ite m2 (c_pos (Int.le_refl _) (c_ite (by omega) ?_))
    rw [Int.toNat_natCast, hL.1 c (by omega)]
    by_cases h0 : nr A dr c = 0
    · rw [if_pos (by omega), if_pos h0]
    · rw [if_neg (by omega), if_neg h0]
/-- a year's step -/
def ys (A : aA) (S : Nat → Int) (kind c : Nat) (came : Int) : Nat := if kind = 1 then fls A S c true (A 0 1) else if kind = 2 then fls A S c false (A 0 1) else if kind = 3 then rvs A (dS S) c came else c
theorem ys_lt (hA : WF A) {kind c : Nat} {came : Int} (hc : c < A 0 1) (hcame : came = -2 ∨ (0 ≤ came ∧ came < (A 0 1 : Int))) : ys A S kind c came < A 0 1 := by
  unfold ys
  split
  · exact fls_lt hc _ _ (Nat.le_refl _)
  · split
    · exact fls_lt hc _ _ (Nat.le_refl _)
    · split
      · exact rvs_lt hA hc hcame
      · exact hc
theorem h_yearStep (h : CY M A S) {kind c : Nat} {came : Int} (hc : c < A 0 1) (hcame : came = -2 ∨ (0 ≤ came ∧ came < (A 0 1 : Int))) : f_X1_yearStep T (kind : Int) (c : Int) came M = some (ys A S kind c came : Int) := by
  unfold f_X1_yearStep
  by_cases h1 : kind = 1
  · refine c_pos (by omega) (c_bind (h_folkStep h hc false) ?_)
    unfold ys; rw [if_pos h1]; rfl
  · refine c_neg (by omega) ?_
    by_cases h2 : kind = 2
    · refine c_pos (by omega) (c_bind (h_folkStep h hc true) ?_)
      unfold ys; rw [if_neg h1, if_pos h2]; rfl
    · refine c_neg (by omega) ?_
      by_cases h3 : kind = 3
      · refine c_pos (by omega) (c_bind (h_roverStep h.1 h.2.2.1 h.2.2.2.2 hc hcame) ?_)
        unfold ys; rw [if_neg h1, if_neg h2, if_pos h3]
      · refine c_neg (by omega) ?_
        unfold ys; rw [if_neg h1, if_neg h2, if_neg h3]
theorem g_goesTo (h : MY T M w A S) {v c : Nat} {came : Int} (hv : v < A 0 3) (hc : c < A 0 1) (hcame : came = -2 ∨ (0 ≤ came ∧ came < (A 0 1 : Int))) (e1 : M 141 v = (c : Int)) (e2 : M 141 (3 + v) = came) : f_X13_goesTo T (v : Int) M = some (ys A S (A 5 v) c came : Int) := by
  have h3 := h.1.1.2.2.2.1
  have hkind := (h.1.2.2.2.2.1 v hv).1
  have hm := h.2.2.1
  obtain ⟨m1, m2, m3⟩ := hm
  unfold f_X13_goesTo
  rw [m1, Int.toNat_natCast, Int.toNat_natCast, (m3.2.2.1 v hv).1, show (3 + (v : Int)).toNat = 3 + v by omega, e1, e2]
  refine c_ite m2 (c_ite (by omega) ?_)
  by_cases h0 : A 5 v = 0
  · refine c_pos (by omega) (c_ite (by omega) ?_)
    unfold ys; rw [if_neg (by omega), if_neg (by omega), if_neg (by omega)]
  · refine c_neg (by omega) ?_
    by_cases h3' : A 5 v = 3
    · refine c_pos (by omega) (c_ite (by omega) (c_ite (by omega) (c_ite (by omega) (c_bind (g_roves h.1 h.2.2.1 h.2.2.2.1 hc hcame) ?_))))
      unfold ys; rw [if_neg (by omega), if_neg (by omega), if_pos h3']
    · refine c_neg (by omega) (c_ite (by omega) ?_)
      by_cases h1 : A 5 v = 1
      · refine c_pos (by omega) (c_bind (g_flees h hc true) ?_)
        unfold ys; rw [if_pos h1]
      · refine c_neg (by omega) (c_bind (g_flees h hc false) ?_)
        unfold ys; rw [if_neg h1, if_pos (by omega)]
end Yr2
