/-! ===== ways of which nobody is sure: liar, nets, netAt, dryBy ===== -/
section Net
variable {α : Type} {A : aA} {S : Nat → Int} {T e w : Nat} {M M1 M0 : aM}
/-- a loop by what its store keeps -/
theorem for_inv {σ : Type} (l : Nat → Nat → σ → Option α) (R : Nat → σ → Prop) (q : Nat) (hs : ∀ i n s, i < q → R i s → ∃ s', R (i + 1) s' ∧ l (n + 1) i s = l n (i + 1) s') (hq : q < 100000) (s : σ) (h0 : R 0 s) : ∃ s', R q s' ∧ ∃ n, l FU 0 s = l (n + 1) q s' := by
  have key : ∀ j i n s, i + j = q → R i s → ∃ s', R q s' ∧ l (n + j) i s = l n q s' := by
    intro j
    induction j with
    | zero => intro i n s h hr; exact ⟨s, by rw [← h]; exact hr, by rw [← h]; rfl⟩
    | succ j ih =>
      intro i n s h hr
      obtain ⟨s', h1, h2⟩ := hs i (n + j) s (by omega) hr
      obtain ⟨s2, h3, h4⟩ := ih (i + 1) n s' (by omega) h1
      exact ⟨s2, h3, by rw [← Nat.add_assoc, h2, h4]⟩
  obtain ⟨s', h1, h2⟩ := key q 0 (99999 - q + 1) s (by omega) h0
  refine ⟨s', h1, 99999 - q, ?_⟩
  rw [show FU = 99999 - q + 1 + q by unfold FU; omega]
  exact h2
/-- wet ways, some of the unsure ones turned -/
def wetB (A : aA) (s : Nat) : Nat → Nat
  | 0 => A 1 4
  | i + 1 => if s.testBit i then wetB A s i ^^^ 2 ^ A 10 i else wetB A s i
abbrev wtb (A : aA) (s : Nat) : Nat := wetB A s (A 0 6)
theorem wetB_lt (hA : WF A) (s : Nat) : ∀ i, i ≤ A 0 6 → wetB A s i < 2 ^ 10
  | 0, _ => Nat.lt_of_lt_of_le hA.2.1.2.2.2.2.1 (Nat.pow_le_pow_right (by decide) hA.1.2.2.1)
  | i + 1, h => by
    have ih := wetB_lt hA s i (by omega)
    have h10 := hA.1.2.2.1
    have hu := (hA.2.2.2.2.2.2.2.1 i (by omega)).1
    unfold wetB
    split
    · exact Nat.xor_lt_two_pow ih (Nat.pow_lt_pow_right (by decide) (by omega))
    · exact ih
theorem wetB_31 (hA : WF A) (s : Nat) {i : Nat} (hi : i ≤ A 0 6) : wetB A s i < 2147483648 := Nat.lt_trans (wetB_lt hA s i hi) (by decide)
theorem wetB_bit (hA : WF A) (s : Nat) {k : Nat} (hk : k < A 0 6) : ∀ i, i ≤ A 0 6 → (wetB A s i).testBit (A 10 k) = ((A 1 4).testBit (A 10 k) ^^ (decide (k < i) && s.testBit k))
  | 0, _ => by
    show (A 1 4).testBit (A 10 k) = _
    rw [decide_eq_false (Nat.not_lt_zero k), Bool.false_and, Bool.xor_false]
  | i + 1, h => by
    have ih := wetB_bit hA s hk i (by omega)
    by_cases hki : k = i
    · subst hki
      rw [decide_eq_false (Nat.lt_irrefl k), Bool.false_and, Bool.xor_false] at ih
      rw [decide_eq_true (by omega), Bool.true_and]
      unfold wetB
      cases hs : s.testBit k
      · rw [if_neg (by decide), ih, Bool.xor_false]
      · rw [if_pos rfl, Nat.testBit_xor, ih, Nat.testBit_two_pow_self]
    · have hne : A 10 i ≠ A 10 k := fun e => hki ((hA.2.2.2.2.2.2.2.1 k hk).2 i (by omega) e.symm)
      have hd : decide (k < i + 1) = decide (k < i) := by rw [decide_eq_decide]; omega
      rw [hd, ← ih]
      have e : wetB A s (i + 1) = if s.testBit i then wetB A s i ^^^ 2 ^ A 10 i else wetB A s i := rfl
      rw [e]
      split
      · rw [Nat.testBit_xor, Nat.testBit_two_pow_of_ne hne, Bool.xor_false]
      · rfl
theorem h_wetBy (hA : WF A) (hC : CT M A) {s : Nat} (hs : s < 2147483648) : f_X6_wetBy T (s : Int) M = some (wtb A s : Int) := by
  have h4 := hA.1.2.2.2.2.2.2.1
  have h10 := hA.1.2.2.1
  unfold f_X6_wetBy
  rw [hC.2.1.2.2.2.2.1]
  refine for_until (fun i n => l_X6_wetBy_10 T (s : Int) M (fun w8 w9 => some w8) n ((wetB A s i : Nat) : Int) (i : Int)) (A 0 6) (fun i n hi => ?_) (fun n => ?_) (by omega)
  · have hu := (hA.2.2.2.2.2.2.2.1 i hi).1
    show l_X6_wetBy_10 T (s : Int) M _ (n + 1) _ (i : Int) = l_X6_wetBy_10 T (s : Int) M _ n ((wetB A s (i + 1) : Nat) : Int) ((i + 1 : Nat) : Int)
    have e : wetB A s (i + 1) = if s.testBit i then wetB A s i ^^^ 2 ^ A 10 i else wetB A s i := rfl
    rw [l_X6_wetBy_10, hC.1 6 (by decide), Int.toNat_natCast, hC.2.2.2.2.2.2.2.1 i hi, ashl_one _ (by omega), axor_nat (wetB_31 hA s (by omega)) (Nat.pow_lt_pow_right (a := 2) (n := 31) (by decide) (by omega))]
    refine c_neg (by omega) (c_bind (h_hasBit hs (by omega)) ?_)
    cases hb : s.testBit i
    · rw [e.trans (if_neg (by rw [hb]; decide))]
      exact c_pos rfl (c_ite (by omega) rfl)
    · rw [e.trans (if_pos hb)]
      exact c_neg (by decide) (c_ite (by omega) (c_ite (by omega) rfl))
  · show l_X6_wetBy_10 T (s : Int) M _ (n + 1) _ ((A 0 6 : Nat) : Int) = _
    rw [l_X6_wetBy_10, hC.1 6 (by decide)]
    exact c_pos (Int.le_refl _) rfl
theorem g_wetBy (hA : WF A) (hm : MV T M w A) {s : Nat} (hs : s < 2147483648) : f_X13_wetBy T (s : Int) M = some (wtb A s : Int) := by
  have h4 := hA.1.2.2.2.2.2.2.1
  have h10 := hA.1.2.2.1
  obtain ⟨m1, m2, m3⟩ := hm
  unfold f_X13_wetBy
  rw [m1, Int.toNat_natCast, m3.1.2.2.2.2.2.2.1]
  refine c_ite m2 ?_
  refine for_until (fun i n => l_X13_wetBy_10 T (s : Int) M (fun w10 w11 => some w10) n ((wetB A s i : Nat) : Int) (i : Int)) (A 0 6) (fun i n hi => ?_) (fun n => ?_) (by omega)
  · have hu := (hA.2.2.2.2.2.2.2.1 i hi).1
    show l_X13_wetBy_10 T (s : Int) M _ (n + 1) _ (i : Int) = l_X13_wetBy_10 T (s : Int) M _ n ((wetB A s (i + 1) : Nat) : Int) ((i + 1 : Nat) : Int)
    have e : wetB A s (i + 1) = if s.testBit i then wetB A s i ^^^ 2 ^ A 10 i else wetB A s i := rfl
    rw [l_X13_wetBy_10, m1, Int.toNat_natCast, m3.1.2.2.2.2.2.2.2.2.2.2.1, Int.toNat_natCast, m3.2.2.2.2.2.1 i hi, ashl_one _ (by omega), axor_nat (wetB_31 hA s (by omega)) (Nat.pow_lt_pow_right (a := 2) (n := 31) (by decide) (by omega))]
    refine c_ite m2 (c_neg (by omega) (c_bind (h_bit hs (by omega)) ?_))
    cases hb : s.testBit i
    · rw [e.trans (if_neg (by rw [hb]; decide))]
      exact c_pos rfl (c_ite (by omega) rfl)
    · rw [e.trans (if_pos hb)]
      exact c_neg (by decide) (c_ite (by omega) (c_ite (by omega) rfl))
  · show l_X13_wetBy_10 T (s : Int) M _ (n + 1) _ ((A 0 6 : Nat) : Int) = _
    rw [l_X13_wetBy_10, m1, Int.toNat_natCast, m3.1.2.2.2.2.2.2.2.2.2.2.1]
    exact c_ite m2 (c_pos (Int.le_refl _) rfl)
/-- talk that isn't so -/
def wrg (A : aA) (dr : Nat → Bool) (k : Nat) : Bool := decide (dst A dr (A 11 k) (A 12 k) ≤ A 1 0) != (A 1 5).testBit k
/-- a row of one cave, and its land's note of wet ways -/
theorem sC_row {f : Nat → Int} {x : Int} : sC M (setc (aup M 45 3 x) (45 + 2) f) := (sC_up (by decide)).trans (sC_set (by decide))
theorem LD_row (hA : WF A) {s c : Nat} (hc : c < A 0 1) {t : Nat} (ht : t < 8) : (setc (aup M 45 3 (s : Int)) (45 + 2) (rw8 (M (45 + 2)) c (fun t => cl (dst A (dry s) c t)))) (45 + 2) (8 * c + t) = (cl (dst A (dry s) c t) : Int) := by
  rw [setc_at, rw8_at ht]
theorem h_span2 {c t x : Nat} (hc : c < 8) (ht : t < 8) (hM : M (e + 2) (8 * c + t) = (x : Int)) : f_X5_span T e (c : Int) (t : Int) M = some (x : Int) := by
  unfold f_X5_span
  refine c_ite (by omega) (c_ite (by omega) (c_ite (by omega) ?_))
  rw [show ((c : Int) * 8 + (t : Int)).toNat = 8 * c + t by omega, hM]
theorem h_untrue (h : CQ M A S) {s : Nat} (hs : s < 2147483648) : ∃ M2, f_X6_firstUntrueTalk T (s : Int) M = some (orN (wrg A (dry (wtb A s))) (A 0 7), M2) ∧ sC M M2 := by
  have hA := h.1
  have h8 := hA.1.2.1
  have h7 := hA.1.2.2.2.2.2.2.2
  have hl := hA.2.1.1
  have hh := hA.2.1.2.2.2.2.2.2
  unfold f_X6_firstUntrueTalk
  rw [h_wetBy hA h.2.2.1 hs]
  show ∃ M2, l_X6_firstUntrueTalk_8 T (wtb A s : Int) _ FU 0 M = _ ∧ _
  have step : ∀ (i n : Nat) (Z : aM), i < A 0 7 → sC M Z → ∃ Z', sC M Z' ∧ (wrg A (dry (wtb A s)) i = false → l_X6_firstUntrueTalk_8 T (wtb A s : Int) (fun w20 m23 => some ((-2), m23)) (n + 1) (i : Int) Z = l_X6_firstUntrueTalk_8 T (wtb A s : Int) (fun w20 m23 => some ((-2), m23)) n ((i + 1 : Nat) : Int) Z') ∧ (wrg A (dry (wtb A s)) i = true → l_X6_firstUntrueTalk_8 T (wtb A s : Int) (fun w20 m23 => some ((-2), m23)) (n + 1) (i : Int) Z = some ((i : Int), Z')) := by
    intro i n Z hi hZ
    have hq := h.of hZ
    have hC := hq.2.2.1
    obtain ⟨t1, t2⟩ := hA.2.2.2.2.2.2.2.2.1 i hi
    have hlay := h_layFrom (T := T) (e := 45) (s := wtb A s) hA (Or.inr (Or.inr rfl)) hC.tw (wetB_31 hA s (Nat.le_refl _)) t1
    have hsc := hZ.trans (sC_row (M := Z) (x := ((wtb A s : Nat) : Int)) (f := rw8 (Z (45 + 2)) (A 11 i) (fun t => cl (dst A (dry (wtb A s)) (A 11 i) t))))
    have hld := LD_row (M := Z) (s := wtb A s) hA t1 (t := A 12 i) (by omega)
    generalize setc (aup Z 45 3 ((wtb A s : Nat) : Int)) (45 + 2) (rw8 (Z (45 + 2)) (A 11 i) (fun t => cl (dst A (dry (wtb A s)) (A 11 i) t))) = Y at hlay hsc hld
    have hC2 := (h.of hsc).2.2.1
    have eq0 : ∀ kk, l_X6_firstUntrueTalk_8 T (wtb A s : Int) kk (n + 1) (i : Int) Z = if (A 1 0 : Int) < (cl (dst A (dry (wtb A s)) (A 11 i) (A 12 i)) : Int) then (if 0 = bI ((A 1 5).testBit i) then (if aIn ((i : Int) + 1) then l_X6_firstUntrueTalk_8 T (wtb A s : Int) kk n ((i : Int) + 1) Y else none) else some ((i : Int), Y)) else (if 1 = bI ((A 1 5).testBit i) then (if aIn ((i : Int) + 1) then l_X6_firstUntrueTalk_8 T (wtb A s : Int) kk n ((i : Int) + 1) Y else none) else some ((i : Int), Y)) := by
      intro kk
      rw [l_X6_firstUntrueTalk_8, hC.1 7 (by decide), Int.toNat_natCast, (hC.2.2.2.2.2.2.2.2 i hi).1]
      refine c_neg (by omega) (c_ite (by omega) (c_bind hlay ?_))
      show (f_X5_span T 45 (Y 14 i) (Y 15 i) Y).bind _ = _
      rw [(hC2.2.2.2.2.2.2.2.2 i hi).1, (hC2.2.2.2.2.2.2.2.2 i hi).2]
      refine c_bind (h_span2 (by omega) (by omega) hld) ?_
      show (if Y 2 0 < _ then (f_X11_hasBit T (Y 2 18) (i : Int) Y).bind _ else (f_X11_hasBit T (Y 2 18) (i : Int) Y).bind _) = _
      rw [hC2.2.1.1, hC2.2.1.2.2.2.2.2, h_hasBit (show A 1 5 < 2147483648 by omega) (show i < 32 by omega)]
      rfl
    refine ⟨Y, hsc, fun hp => ?_, fun hp => ?_⟩
    · rw [eq0]
      unfold wrg at hp
      by_cases hle : dst A (dry (wtb A s)) (A 11 i) (A 12 i) ≤ A 1 0
      · rw [decide_eq_true hle] at hp
        have hb : (A 1 5).testBit i = true := by cases hb : (A 1 5).testBit i; rw [hb] at hp; cases hp; rfl
        refine c_neg (fun h => absurd ((cl_lt (by omega)).mp h) (by omega)) ?_
        rw [hb]
        exact c_pos rfl (c_ite (by omega) rfl)
      · rw [decide_eq_false hle] at hp
        have hb : (A 1 5).testBit i = false := by cases hb : (A 1 5).testBit i; rfl; rw [hb] at hp; cases hp
        refine c_pos ((cl_lt (by omega)).mpr (by omega)) ?_
        rw [hb]
        exact c_pos rfl (c_ite (by omega) rfl)
    · rw [eq0]
      unfold wrg at hp
      by_cases hle : dst A (dry (wtb A s)) (A 11 i) (A 12 i) ≤ A 1 0
      · rw [decide_eq_true hle] at hp
        have hb : (A 1 5).testBit i = false := by cases hb : (A 1 5).testBit i; rfl; rw [hb] at hp; cases hp
        refine c_neg (fun h => absurd ((cl_lt (by omega)).mp h) (by omega)) ?_
        rw [hb]
        exact c_neg (by decide) rfl
      · rw [decide_eq_false hle] at hp
        have hb : (A 1 5).testBit i = true := by cases hb : (A 1 5).testBit i; rw [hb] at hp; cases hp; rfl
        refine c_pos ((cl_lt (by omega)).mpr (by omega)) ?_
        rw [hb]
        exact c_neg (by decide) rfl
  have hle := fst_le (wrg A (dry (wtb A s))) (A 0 7)
  obtain ⟨Z, hZ, n, hrun⟩ := for_inv (fun n i (Z : aM) => l_X6_firstUntrueTalk_8 T (wtb A s : Int) (fun w20 m23 => some ((-2), m23)) n (i : Int) Z) (fun _ Z => sC M Z) (fst (wrg A (dry (wtb A s))) (A 0 7)) (fun i n Z hi hZ => by
    obtain ⟨Z', h1, h2, -⟩ := step i n Z (by omega) hZ
    exact ⟨Z', h1, h2 (fst_no _ _ i hi)⟩) (by omega) M (sC.refl M)
  have hrun2 : l_X6_firstUntrueTalk_8 T (wtb A s : Int) (fun w20 m23 => some ((-2), m23)) FU 0 M = l_X6_firstUntrueTalk_8 T (wtb A s : Int) (fun w20 m23 => some ((-2), m23)) (n + 1) ((fst (wrg A (dry (wtb A s))) (A 0 7) : Nat) : Int) Z := hrun
  unfold orN
  by_cases hf : fst (wrg A (dry (wtb A s))) (A 0 7) < A 0 7
  · obtain ⟨Z', h1, -, h3⟩ := step _ n Z hf hZ
    refine ⟨Z', ?_, h1⟩
    rw [if_pos hf, ← h3 (fst_yes _ _ hf)]
    exact hrun2
  · refine ⟨Z, ?_, hZ⟩
    rw [if_neg hf]
    refine hrun2.trans ?_
    rw [l_X6_firstUntrueTalk_8, (h.of hZ).2.2.1.1 7 (by decide)]
    exact c_pos (by omega) rfl
theorem g_wrong (hA : WF A) (hm : MV T M w A) {dr : Nat → Bool} (hL : LM M A dr) : f_X13_wrongTalk T M = some (orN (wrg A dr) (A 0 7)) := by
  have h8 := hA.1.2.1
  have h7 := hA.1.2.2.2.2.2.2.2
  have hh := hA.2.1.2.2.2.2.2.2
  obtain ⟨m1, m2, m3⟩ := hm
  unfold f_X13_wrongTalk
  have := find_loop (fun n i => l_X13_wrongTalk_2 T M (fun w15 => some (-2)) n i) (A 0 7) (wrg A dr) (fun i => some (i : Int)) (y := some (-2)) (by omega) (fun i n hi hp => ?_) (fun i n hi hp => ?_) (fun n => ?_)
  · have t2 : l_X13_wrongTalk_2 T M (fun w15 => some (-2)) FU 0 = _ := this
    rw [t2]; unfold orN; split <;> rfl
  · obtain ⟨t1, t2⟩ := hA.2.2.2.2.2.2.2.2.1 i hi
    obtain ⟨q1, q2⟩ := m3.2.2.2.2.2.2 i hi
    show l_X13_wrongTalk_2 T M _ (n + 1) (i : Int) = _
    rw [l_X13_wrongTalk_2, m1, Int.toNat_natCast, m3.1.2.2.2.2.2.2.2.2.2.2.2.1, m3.1.1, m3.1.2.2.2.2.2.2.2.2.2.2.2.2, Int.toNat_natCast, q1, q2]
    refine c_ite m2 (c_neg (by omega) (c_ite (by omega) (c_bind (g_apart hL (by omega) (by omega)) ?_)))
    unfold wrg at hp
    by_cases hle : dst A dr (A 11 i) (A 12 i) ≤ A 1 0
    · rw [decide_eq_true hle] at hp
      have hb : (A 1 5).testBit i = true := by cases hb : (A 1 5).testBit i; rw [hb] at hp; cases hp; rfl
      refine c_neg (by omega) (c_bind (h_bit (by omega) (by omega)) ?_)
      rw [hb]
      exact c_pos rfl (c_ite (by omega) rfl)
    · rw [decide_eq_false hle] at hp
      have hb : (A 1 5).testBit i = false := by cases hb : (A 1 5).testBit i; rfl; rw [hb] at hp; cases hp
      refine c_pos (by omega) (c_bind (h_bit (by omega) (by omega)) ?_)
      rw [hb]
      exact c_pos rfl (c_ite (by omega) rfl)
  · obtain ⟨t1, t2⟩ := hA.2.2.2.2.2.2.2.2.1 i hi
    obtain ⟨q1, q2⟩ := m3.2.2.2.2.2.2 i hi
    show l_X13_wrongTalk_2 T M _ (n + 1) (i : Int) = _
    rw [l_X13_wrongTalk_2, m1, Int.toNat_natCast, m3.1.2.2.2.2.2.2.2.2.2.2.2.1, m3.1.1, m3.1.2.2.2.2.2.2.2.2.2.2.2.2, Int.toNat_natCast, q1, q2]
    refine c_ite m2 (c_neg (by omega) (c_ite (by omega) (c_bind (g_apart hL (by omega) (by omega)) ?_)))
    unfold wrg at hp
    by_cases hle : dst A dr (A 11 i) (A 12 i) ≤ A 1 0
    · rw [decide_eq_true hle] at hp
      have hb : (A 1 5).testBit i = false := by cases hb : (A 1 5).testBit i; rfl; rw [hb] at hp; cases hp
      refine c_neg (by omega) (c_bind (h_bit (by omega) (by omega)) ?_)
      rw [hb]
      exact c_neg (by decide) rfl
    · rw [decide_eq_false hle] at hp
      have hb : (A 1 5).testBit i = true := by cases hb : (A 1 5).testBit i; rw [hb] at hp; cases hp; rfl
      refine c_pos (by omega) (c_bind (h_bit (by omega) (by omega)) ?_)
      rw [hb]
      exact c_neg (by decide) rfl
  · show l_X13_wrongTalk_2 T M _ (n + 1) ((A 0 7 : Nat) : Int) = _
    rw [l_X13_wrongTalk_2, m1, Int.toNat_natCast, m3.1.2.2.2.2.2.2.2.2.2.2.2.1]
    exact c_ite m2 (c_pos (Int.le_refl _) rfl)
theorem wtb_0 : wtb A 0 = A 1 4 := by
  have : ∀ i, wetB A 0 i = A 1 4 := by
    intro i
    induction i with
    | zero => rfl
    | succ i ih =>
      show (if (0 : Nat).testBit i then wetB A 0 i ^^^ 2 ^ A 10 i else wetB A 0 i) = _
      rw [Nat.zero_testBit, if_neg (by decide)]; exact ih
  exact this _
def sp_liar (A : aA) : Int × Int := gd (0 < A 0 0) (orN (wrg A (d1 A)) (A 0 7)) 1
theorem c_liar (h : CQ M A S) : opC (f_X11_liar T M) M (sp_liar A) := by
  unfold f_X11_liar sp_liar
  refine oC_well h.2.2.1 (fun hn => ?_) (fun hp => ?_)
  · rw [gd_neg hn]; exact oC_ref
  · rw [gd_pos hp]
    obtain ⟨M2, e1, e2⟩ := h_untrue (T := T) h (s := 0) (by decide)
    rw [wtb_0] at e1
    exact oC_bind e1 (oC_al e2)
theorem m_liar (h : MD T M A S) : opM (f_X13_liar T M) M (sp_liar A) := by
  unfold f_X13_liar sp_liar
  refine oM_bind rfl ?_
  have h1 : sM M (aup M 138 0 0) := sM_fl (by omega)
  have hm1 := h.of h1
  refine oM_well hm1 (fun hn => ?_) (fun hp => ?_)
  · rw [gd_neg hn]; exact oM_ref h1
  · rw [gd_pos hp]
    obtain ⟨w, hw⟩ := hm1.has (by omega)
    rw [hw.1, Int.toNat_natCast]
    exact oM_pos hw.2.1 (oM_bind (g_first h.1 hw) (oM_bind (g_wrong h.1 (mv_laysM hw) laysM_LM) (oM_good (h1.trans sM_lays))))
end Net
