/-! ===== the text, token by token: the class ===== -/
section Tkc
variable {B : Nat → Int} {n p s : Nat} {T : Nat} {M : aM}
/-- the class at a token -/
def CK (B : Nat → Int) (n : Nat) (M : aM) (p : Nat) : Prop := (M 34 1 = (n : Int) ∧ M 34 2 = (kE B n p : Int) ∧ M 34 3 = (p : Int) ∧ M 34 4 = (kS B n p : Int)) ∧ p ≤ n ∧ ∀ k, k < n → M 1 k = B k
theorem h_isL (b : Int) : f_X9_isLetter T b M = some (bI (isL b)) := by
  unfold f_X9_isLetter
  by_cases h1 : b < 97
  · rw [if_pos h1]
    have : isL b = false := by cases h : isL b; rfl; have := isL_iff.mp h; omega
    rw [this]; rfl
  · rw [if_neg h1]
    by_cases h2 : 122 < b
    · rw [if_pos h2]
      have : isL b = false := by cases h : isL b; rfl; have := isL_iff.mp h; omega
      rw [this]; rfl
    · rw [if_neg h2, isL_iff.mpr (by omega)]; rfl
theorem h_isD (b : Int) : f_X9_isDigit T b M = some (bI (isD b)) := by
  unfold f_X9_isDigit
  by_cases h1 : b < 48
  · rw [if_pos h1]
    have : isD b = false := by cases h : isD b; rfl; have := isD_iff.mp h; omega
    rw [this]; rfl
  · rw [if_neg h1]
    by_cases h2 : 57 < b
    · rw [if_pos h2]
      have : isD b = false := by cases h : isD b; rfl; have := isD_iff.mp h; omega
      rw [this]; rfl
    · rw [if_neg h2, isD_iff.mpr (by omega)]; rfl
theorem h_adv8 (hn : n ≤ 900) (hs : s ≤ n) (h1 : M 34 1 = (n : Int)) (hB : ∀ k, k < n → M 1 k = B k) (kk : aM → Option (Int × aM)) : l_X9_advance_8 T kk FU (aup M 34 3 (s : Int)) = kk (aup M 34 3 (spq B n s : Int)) := by
  have hle := fst_le (fun i => !decide (B (s + i) = 32)) (n - s)
  refine for_until (fun i m => l_X9_advance_8 T kk m (aup M 34 3 ((s + i : Nat) : Int))) (fst (fun i => !decide (B (s + i) = 32)) (n - s)) (fun i m hi => ?_) (fun m => ?_) (by omega)
  · have hb := fst_no (fun i => !decide (B (s + i) = 32)) (n - s) i hi
    have hb2 : B (s + i) = 32 := by
      cases hq : decide (B (s + i) = 32)
      · rw [hq] at hb; cases hb
      · exact of_decide_eq_true hq
    show l_X9_advance_8 T kk (m + 1) (aup M 34 3 ((s + i : Nat) : Int)) = l_X9_advance_8 T kk m (aup M 34 3 ((s + (i + 1) : Nat) : Int))
    have e1 : aup M 34 3 ((s + i : Nat) : Int) 34 1 = (n : Int) := by rw [aup_ne2 (by decide)]; exact h1
    have e3 : aup M 34 3 ((s + i : Nat) : Int) 34 3 = ((s + i : Nat) : Int) := aup_at
    have eb : aup M 34 3 ((s + i : Nat) : Int) 1 (s + i) = 32 := by rw [aup_nc (by decide), hB _ (by omega), hb2]
    rw [l_X9_advance_8, e1, e3, Int.toNat_natCast, eb]
    refine c_neg (by omega) (c_ite (by omega) (c_pos rfl (c_ite (by omega) (c_some ?_))))
    rw [aup_aup]
    rfl
  · show l_X9_advance_8 T kk (m + 1) (aup M 34 3 (spq B n s : Int)) = _
    have e1 : aup M 34 3 (spq B n s : Int) 34 1 = (n : Int) := by rw [aup_ne2 (by decide)]; exact h1
    have e3 : aup M 34 3 (spq B n s : Int) 34 3 = (spq B n s : Int) := aup_at
    have hsp : spq B n s = s + fst (fun i => !decide (B (s + i) = 32)) (n - s) := rfl
    rw [l_X9_advance_8, e1, e3, Int.toNat_natCast]
    by_cases hend : n ≤ spq B n s
    · exact c_pos (by omega) rfl
    · refine c_neg (by omega) (c_ite (by omega) (c_neg ?_ rfl))
      have hy := fst_yes (fun i => !decide (B (s + i) = 32)) (n - s) (by omega)
      have hy2 : B (spq B n s) ≠ 32 := by
        rw [hsp]
        intro e
        have : (!decide (B (s + fst (fun i => !decide (B (s + i) = 32)) (n - s)) = 32)) = true := hy
        rw [decide_eq_true e] at this
        cases this
      rw [aup_nc (by decide), hB _ (by omega)]
      exact hy2
theorem h_adv88 (hn : n ≤ 900) (hs : s ≤ n) (h1 : M 34 1 = (n : Int)) (hB : ∀ k, k < n → M 1 k = B k) (kk : aM → Option (Int × aM)) : l_X9_advance_88 T kk FU (aup M 34 2 (s : Int)) = kk (aup M 34 2 ((s + lsq B n s : Nat) : Int)) := by
  have hle := fst_le (fun i => !isL (B (s + i))) (n - s)
  refine for_until (fun i m => l_X9_advance_88 T kk m (aup M 34 2 ((s + i : Nat) : Int))) (lsq B n s) (fun i m hi => ?_) (fun m => ?_) (by unfold lsq; omega)
  · have hl := lsq_let hi
    have hin : i < n - s := by have := lsq_le (B := B) (n := n) (p := s); omega
    show l_X9_advance_88 T kk (m + 1) (aup M 34 2 ((s + i : Nat) : Int)) = l_X9_advance_88 T kk m (aup M 34 2 ((s + (i + 1) : Nat) : Int))
    have e1 : aup M 34 2 ((s + i : Nat) : Int) 34 1 = (n : Int) := by rw [aup_ne2 (by decide)]; exact h1
    have e3 : aup M 34 2 ((s + i : Nat) : Int) 34 2 = ((s + i : Nat) : Int) := aup_at
    have eb : aup M 34 2 ((s + i : Nat) : Int) 1 (s + i) = B (s + i) := by rw [aup_nc (by decide), hB _ (by omega)]
    rw [l_X9_advance_88, e1, e3, Int.toNat_natCast, eb]
    refine c_neg (by omega) (c_ite (by omega) (c_bind (h_isL _) ?_))
    rw [isL_iff.mpr hl]
    refine c_neg (by decide) (c_ite (by omega) (c_some ?_))
    rw [aup_aup]
    rfl
  · show l_X9_advance_88 T kk (m + 1) (aup M 34 2 ((s + lsq B n s : Nat) : Int)) = _
    have e1 : aup M 34 2 ((s + lsq B n s : Nat) : Int) 34 1 = (n : Int) := by rw [aup_ne2 (by decide)]; exact h1
    have e3 : aup M 34 2 ((s + lsq B n s : Nat) : Int) 34 2 = ((s + lsq B n s : Nat) : Int) := aup_at
    rw [l_X9_advance_88, e1, e3, Int.toNat_natCast]
    by_cases hend : n ≤ s + lsq B n s
    · exact c_pos (by omega) rfl
    · have eb : aup M 34 2 ((s + lsq B n s : Nat) : Int) 1 (s + lsq B n s) = B (s + lsq B n s) := by rw [aup_nc (by decide), hB _ (by omega)]
      rw [eb]
      refine c_neg (by omega) (c_ite (by omega) (c_bind (h_isL _) ?_))
      have hy := fst_yes (fun i => !isL (B (s + i))) (n - s) (by show lsq B n s < n - s; omega)
      have hy2 : isL (B (s + lsq B n s)) = false := by
        have : (!isL (B (s + lsq B n s))) = true := hy
        cases hq : isL (B (s + lsq B n s))
        · rfl
        · rw [hq] at this; cases this
      rw [hy2]
      exact c_pos rfl rfl
theorem h_adv168 (hn : n ≤ 900) (hs : s ≤ n) (h1 : M 34 1 = (n : Int)) (hB : ∀ k, k < n → M 1 k = B k) (kk : aM → Option (Int × aM)) : l_X9_advance_168 T kk FU (aup M 34 2 (s : Int)) = kk (aup M 34 2 ((s + dsq B n s : Nat) : Int)) := by
  have hle := fst_le (fun i => !isD (B (s + i))) (n - s)
  refine for_until (fun i m => l_X9_advance_168 T kk m (aup M 34 2 ((s + i : Nat) : Int))) (dsq B n s) (fun i m hi => ?_) (fun m => ?_) (by unfold dsq; omega)
  · have hl := dsq_dig hi
    have hin : i < n - s := by have := dsq_le (B := B) (n := n) (p := s); omega
    show l_X9_advance_168 T kk (m + 1) (aup M 34 2 ((s + i : Nat) : Int)) = l_X9_advance_168 T kk m (aup M 34 2 ((s + (i + 1) : Nat) : Int))
    have e1 : aup M 34 2 ((s + i : Nat) : Int) 34 1 = (n : Int) := by rw [aup_ne2 (by decide)]; exact h1
    have e3 : aup M 34 2 ((s + i : Nat) : Int) 34 2 = ((s + i : Nat) : Int) := aup_at
    have eb : aup M 34 2 ((s + i : Nat) : Int) 1 (s + i) = B (s + i) := by rw [aup_nc (by decide), hB _ (by omega)]
    rw [l_X9_advance_168, e1, e3, Int.toNat_natCast, eb]
    refine c_neg (by omega) (c_ite (by omega) (c_bind (h_isD _) ?_))
    rw [isD_iff.mpr hl]
    refine c_neg (by decide) (c_ite (by omega) (c_some ?_))
    rw [aup_aup]
    rfl
  · show l_X9_advance_168 T kk (m + 1) (aup M 34 2 ((s + dsq B n s : Nat) : Int)) = _
    have e1 : aup M 34 2 ((s + dsq B n s : Nat) : Int) 34 1 = (n : Int) := by rw [aup_ne2 (by decide)]; exact h1
    have e3 : aup M 34 2 ((s + dsq B n s : Nat) : Int) 34 2 = ((s + dsq B n s : Nat) : Int) := aup_at
    rw [l_X9_advance_168, e1, e3, Int.toNat_natCast]
    by_cases hend : n ≤ s + dsq B n s
    · exact c_pos (by omega) rfl
    · have eb : aup M 34 2 ((s + dsq B n s : Nat) : Int) 1 (s + dsq B n s) = B (s + dsq B n s) := by rw [aup_nc (by decide), hB _ (by omega)]
      rw [eb]
      refine c_neg (by omega) (c_ite (by omega) (c_bind (h_isD _) ?_))
      have hy := fst_yes (fun i => !isD (B (s + i))) (n - s) (by show dsq B n s < n - s; omega)
      have hy2 : isD (B (s + dsq B n s)) = false := by
        have : (!isD (B (s + dsq B n s))) = true := hy
        cases hq : isD (B (s + dsq B n s))
        · rfl
        · rw [hq] at this; cases this
      rw [hy2]
      exact c_pos rfl rfl
/-- on to the next token, from wherever the last one stopped -/
theorem h_adv (hn : n ≤ 900) (hs : s ≤ n) (h1 : M 34 1 = (n : Int)) (h2 : M 34 2 = (s : Int)) (hB : ∀ k, k < n → M 1 k = B k) : ∃ M', f_X9_advance T M = some (0, M') ∧ CK B n M' (spq B n s) ∧ ∀ m, m ≠ 34 → M' m = M m := by
  obtain ⟨hq1, hq2⟩ := spq_le (B := B) hs
  unfold f_X9_advance
  rw [h2]
  rw [show (some (aup M 34 3 (s : Int))).bind (fun m1 => l_X9_advance_8 T _ FU m1) = l_X9_advance_8 T _ FU (aup M 34 3 (s : Int)) from rfl, h_adv8 hn hs h1 hB]
  generalize spq B n s = q at hq1 hq2 ⊢
  have g1 : aup M 34 3 (q : Int) 34 1 = (n : Int) := by rw [aup_ne2 (by decide)]; exact h1
  have g3 : aup M 34 3 (q : Int) 34 3 = (q : Int) := aup_at
  have gB : ∀ k, k < n → aup M 34 3 (q : Int) 1 k = B k := fun k hk => by rw [aup_nc (by decide)]; exact hB k hk
  have gF : ∀ m, m ≠ 34 → aup M 34 3 (q : Int) m = M m := fun m hm => aup_nc hm
  generalize aup M 34 3 (q : Int) = M1 at g1 g3 gB gF ⊢
  show ∃ M', ((some (aup M1 34 2 (M1 34 3))).bind _) = some (0, M') ∧ _
  rw [g3]
  have k1 : aup M1 34 2 (q : Int) 34 1 = (n : Int) := by rw [aup_ne2 (by decide)]; exact g1
  have k3 : aup M1 34 2 (q : Int) 34 3 = (q : Int) := by rw [aup_ne2 (by decide)]; exact g3
  have k2 : aup M1 34 2 (q : Int) 34 2 = (q : Int) := aup_at
  have kB : ∀ k, k < n → aup M1 34 2 (q : Int) 1 k = B k := fun k hk => by rw [aup_nc (by decide)]; exact gB k hk
  -- the end of a road: stop and sort
  have fin : ∀ (e sr : Nat), kE B n q = e → kS B n q = sr → CK B n (aup (aup M1 34 2 (e : Int)) 34 4 (sr : Int)) q ∧ ∀ m, m ≠ 34 → aup (aup M1 34 2 (e : Int)) 34 4 (sr : Int) m = M m := by
    intro e sr he hsr
    refine ⟨⟨⟨?_, ?_, ?_, ?_⟩, hq2, fun k hk => ?_⟩, fun m hm => ?_⟩
    · rw [aup_ne2 (by decide), aup_ne2 (by decide)]; exact g1
    · rw [aup_ne2 (by decide), he]; exact aup_at
    · rw [aup_ne2 (by decide), aup_ne2 (by decide)]; exact g3
    · rw [hsr]; exact aup_at
    · rw [aup_nc (by decide), aup_nc (by decide)]; exact gB k hk
    · rw [aup_nc hm, aup_nc hm]; exact gF m hm
  by_cases hend : n ≤ q
  · have he : kE B n q = q := by unfold kE; rw [if_pos hend]
    have hS : kS B n q = 0 := kS_end.mpr hend
    refine ⟨_, ?_, fin q 0 he hS⟩
    refine c_some ?_
    rw [k1, k3]
    exact c_neg (by omega) (c_some rfl)
  · have hb : aup M1 34 2 (q : Int) 1 q = B q := kB q (by omega)
    by_cases hL : isL (B q) = true
    · have he : kE B n q = q + lsq B n q := by unfold kE; rw [if_neg hend, if_pos hL]
      have hpos := lsq_pos (n := n) (by omega) hL
      have hle := lsq_le (B := B) (n := n) (p := q)
      have w1 : aup M1 34 2 ((q + lsq B n q : Nat) : Int) 34 2 = ((q + lsq B n q : Nat) : Int) := aup_at
      have w3 : aup M1 34 2 ((q + lsq B n q : Nat) : Int) 34 3 = (q : Int) := by rw [aup_ne2 (by decide)]; exact g3
      by_cases h8 : lsq B n q ≤ 8
      · have hS : kS B n q = 1 := by unfold kS; rw [if_neg hend, if_pos hL, if_pos h8]
        refine ⟨_, ?_, fin _ 1 he hS⟩
        refine c_some ?_
        rw [k1, k3, Int.toNat_natCast, hb]
        refine c_pos (by omega) (c_ite (by omega) (c_bind (h_isL _) ?_))
        rw [hL]
        refine c_neg (by decide) ((h_adv88 hn hq2 g1 gB _).trans ?_)
        rw [w1, w3]
        exact c_ite (by omega) (c_neg (by omega) (c_some rfl))
      · have hS : kS B n q = 4 := by unfold kS; rw [if_neg hend, if_pos hL, if_neg h8]
        refine ⟨_, ?_, fin _ 4 he hS⟩
        refine c_some ?_
        rw [k1, k3, Int.toNat_natCast, hb]
        refine c_pos (by omega) (c_ite (by omega) (c_bind (h_isL _) ?_))
        rw [hL]
        refine c_neg (by decide) ((h_adv88 hn hq2 g1 gB _).trans ?_)
        rw [w1, w3]
        exact c_ite (by omega) (c_pos (by omega) (c_some rfl))
    · have hLf : isL (B q) = false := by cases hh : isL (B q); rfl; exact absurd hh hL
      by_cases hD : isD (B q) = true
      · have he : kE B n q = q + dsq B n q := by unfold kE; rw [if_neg hend, if_neg hL, if_pos hD]
        have hle := dsq_le (B := B) (n := n) (p := q)
        have w1 : aup M1 34 2 ((q + dsq B n q : Nat) : Int) 34 2 = ((q + dsq B n q : Nat) : Int) := aup_at
        have w3 : aup M1 34 2 ((q + dsq B n q : Nat) : Int) 34 3 = (q : Int) := by rw [aup_ne2 (by decide)]; exact g3
        by_cases h8 : dsq B n q ≤ 3
        · have hS : kS B n q = 2 := by unfold kS; rw [if_neg hend, if_neg hL, if_pos hD, if_pos h8]
          refine ⟨_, ?_, fin _ 2 he hS⟩
          refine c_some ?_
          rw [k1, k3, Int.toNat_natCast, hb]
          refine c_pos (by omega) (c_ite (by omega) (c_bind (h_isL _) ?_))
          rw [hLf]
          refine c_pos rfl (c_bind (h_isD _) ?_)
          rw [hD]
          refine c_neg (by decide) ((h_adv168 hn hq2 g1 gB _).trans ?_)
          rw [w1, w3]
          exact c_ite (by omega) (c_neg (by omega) (c_some rfl))
        · have hS : kS B n q = 4 := by unfold kS; rw [if_neg hend, if_neg hL, if_pos hD, if_neg h8]
          refine ⟨_, ?_, fin _ 4 he hS⟩
          refine c_some ?_
          rw [k1, k3, Int.toNat_natCast, hb]
          refine c_pos (by omega) (c_ite (by omega) (c_bind (h_isL _) ?_))
          rw [hLf]
          refine c_pos rfl (c_bind (h_isD _) ?_)
          rw [hD]
          refine c_neg (by decide) ((h_adv168 hn hq2 g1 gB _).trans ?_)
          rw [w1, w3]
          exact c_ite (by omega) (c_pos (by omega) (c_some rfl))
      · have hDf : isD (B q) = false := by cases hh : isD (B q); rfl; exact absurd hh hD
        have he : kE B n q = q + 1 := by unfold kE; rw [if_neg hend, if_neg hL, if_neg hD]
        have hswap : ∀ sr : Int, aup (aup (aup M1 34 2 (q : Int)) 34 4 sr) 34 2 ((q : Int) + 1) = aup (aup M1 34 2 ((q + 1 : Nat) : Int)) 34 4 sr := by
          intro sr
          funext a b
          unfold aup
          by_cases ha : a = 34
          · subst ha
            by_cases hb2 : b = 2
            · subst hb2; simp
            · by_cases hb4 : b = 4
              · subst hb4; simp
              · simp [hb2, hb4]
          · simp [ha]
        by_cases h59 : B q = 59
        · have hS : kS B n q = 3 := by unfold kS; rw [if_neg hend, if_neg hL, if_neg hD, if_pos h59]
          refine ⟨_, ?_, fin _ 3 he hS⟩
          refine c_some ?_
          rw [k1, k3, Int.toNat_natCast, hb]
          refine c_pos (by omega) (c_ite (by omega) (c_bind (h_isL _) ?_))
          rw [hLf]
          refine c_pos rfl (c_bind (h_isD _) ?_)
          rw [hDf]
          refine c_pos rfl (c_pos h59 (c_some ?_))
          have e2 : aup (aup M1 34 2 (q : Int)) 34 4 3 34 2 = (q : Int) := by rw [aup_ne2 (by decide)]; exact aup_at
          rw [e2]
          refine c_ite (by omega) (c_some ?_)
          rw [hswap]
          rfl
        · have hS : kS B n q = 4 := by unfold kS; rw [if_neg hend, if_neg hL, if_neg hD, if_neg h59]
          refine ⟨_, ?_, fin _ 4 he hS⟩
          refine c_some ?_
          rw [k1, k3, Int.toNat_natCast, hb]
          refine c_pos (by omega) (c_ite (by omega) (c_bind (h_isL _) ?_))
          rw [hLf]
          refine c_pos rfl (c_bind (h_isD _) ?_)
          rw [hDf]
          refine c_pos rfl (c_neg h59 (c_some ?_))
          have e2 : aup (aup M1 34 2 (q : Int)) 34 4 4 34 2 = (q : Int) := by rw [aup_ne2 (by decide)]; exact aup_at
          rw [e2]
          refine c_ite (by omega) (c_some ?_)
          rw [hswap]
          rfl
theorem CK.adv (hn : n ≤ 900) (h : CK B n M p) : ∃ M', f_X9_advance T M = some (0, M') ∧ CK B n M' (kX B n p) ∧ ∀ m, m ≠ 34 → M' m = M m := h_adv hn (kE_le h.2.1).1 h.1.1 h.1.2.1 h.2.2
/-- a word at hand -/
def isw (B : Nat → Int) (n k p : Nat) : Bool := decide (kS B n p = 1) && decide (kW B n p = pkd k)
theorem CK.wrd (hn : n ≤ 900) (h : CK B n M p) {k : Nat} (hk : k < 48) {v : Int} (hv : v = 2000000 + (k : Int)) : f_X9_isWord T v M = some (bI (isw B n k p)) := by
  obtain ⟨⟨h1, h2, h3, h4⟩, hp, hB⟩ := h
  subst hv
  unfold f_X9_isWord isw
  rw [h4]
  refine c_ite (by omega) ?_
  by_cases hw : kS B n p = 1
  · obtain ⟨w1, w2, w3, w4⟩ := kS_word hw
    have hle := lsq_le (B := B) (n := n) (p := p)
    have htx := word_tx hw hk
    have hsub : (2000000 + (k : Int) - 2000000).toNat = k := by omega
    rw [decide_eq_true hw, Bool.true_and, h2, h3, w4, hsub]
    refine c_pos (by omega) (c_ite (by omega) (c_ite (by omega) ?_))
    have hlen : ((atx.getD k []).length : Int) = ((txl k : Nat) : Int) := rfl
    rw [hlen]
    by_cases hl : lsq B n p = txl k
    · refine c_pos (by omega) ?_
      have key := find_loop (fun m i => l_X9_isWord_28 T (2000000 + (k : Int)) M (fun w12 => some 1) m i) (txl k) (fun i => !decide (B (p + i) = (((atx.getD k []).getD i 0 : Nat) : Int))) (fun _ => some 0) (y := some 1) (by omega) ?_ ?_ ?_
      · refine Eq.trans key ?_
        by_cases hf : fst (fun i => !decide (B (p + i) = (((atx.getD k []).getD i 0 : Nat) : Int))) (txl k) < txl k
        · rw [if_pos hf]
          have hy := fst_yes (fun i => !decide (B (p + i) = (((atx.getD k []).getD i 0 : Nat) : Int))) (txl k) hf
          have hne : ¬ kW B n p = pkd k := fun e => by
            have := (htx.mp e).2 _ hf
            have hy2 : (!decide (B (p + fst (fun i => !decide (B (p + i) = (((atx.getD k []).getD i 0 : Nat) : Int))) (txl k)) = (((atx.getD k []).getD (fst (fun i => !decide (B (p + i) = (((atx.getD k []).getD i 0 : Nat) : Int))) (txl k)) 0 : Nat) : Int))) = true := hy
            rw [decide_eq_true this] at hy2
            cases hy2
          rw [decide_eq_false hne]; rfl
        · rw [if_neg hf]
          have hyes : kW B n p = pkd k := htx.mpr ⟨hl, fun i hi => by
            have h5 := fst_no (fun i => !decide (B (p + i) = (((atx.getD k []).getD i 0 : Nat) : Int))) (txl k) i (by omega)
            cases hq : decide (B (p + i) = (((atx.getD k []).getD i 0 : Nat) : Int))
            · rw [hq] at h5; cases h5
            · exact of_decide_eq_true hq⟩
          rw [decide_eq_true hyes]; rfl
      · intro i m hi hpi
        have hbi : B (p + i) = (((atx.getD k []).getD i 0 : Nat) : Int) := by
          cases hq : decide (B (p + i) = (((atx.getD k []).getD i 0 : Nat) : Int))
          · rw [hq] at hpi; cases hpi
          · exact of_decide_eq_true hq
        show l_X9_isWord_28 T (2000000 + (k : Int)) M _ (m + 1) (i : Int) = _
        rw [l_X9_isWord_28, h3, hsub, Int.toNat_natCast, show ((p : Int) + (i : Int)).toNat = p + i by omega, hB _ (by omega), hlen]
        exact c_ite (by omega) (c_neg (by omega) (c_ite (by omega) (c_ite (by omega) (c_ite ⟨by omega, by omega, by omega, hi⟩ (c_pos hbi (c_ite (by omega) rfl))))))
      · intro i m hi hpi
        have hbi : ¬ B (p + i) = (((atx.getD k []).getD i 0 : Nat) : Int) := fun e => by rw [decide_eq_true e] at hpi; cases hpi
        show l_X9_isWord_28 T (2000000 + (k : Int)) M _ (m + 1) (i : Int) = _
        rw [l_X9_isWord_28, h3, hsub, Int.toNat_natCast, show ((p : Int) + (i : Int)).toNat = p + i by omega, hB _ (by omega), hlen]
        exact c_ite (by omega) (c_neg (by omega) (c_ite (by omega) (c_ite (by omega) (c_ite ⟨by omega, by omega, by omega, hi⟩ (c_neg hbi rfl)))))
      · intro m
        show l_X9_isWord_28 T (2000000 + (k : Int)) M _ (m + 1) ((txl k : Nat) : Int) = _
        rw [l_X9_isWord_28, hsub, hlen]
        exact c_ite (by omega) (c_pos (Int.le_refl _) rfl)
    · have hne : ¬ kW B n p = pkd k := fun e => hl (htx.mp e).1
      rw [decide_eq_false hne]
      exact c_neg (by omega) rfl
  · rw [decide_eq_false hw, Bool.false_and]
    exact c_neg (by omega) rfl
theorem CK.word (hn : n ≤ 900) (h : CK B n M p) (hw : kS B n p = 1) : f_X9_wordNumber T M = some ((kW B n p : Nat) : Int) := by
  obtain ⟨⟨h1, h2, h3, h4⟩, hp, hB⟩ := h
  obtain ⟨w1, w2, w3, w4⟩ := kS_word hw
  have hle := lsq_le (B := B) (n := n) (p := p)
  unfold f_X9_wordNumber
  rw [h3, (kW_pos hw).1]
  refine for_until (fun i m => l_X9_wordNumber_7 T M (fun w8 w9 => some w8) m (dgs (fun i => B (p + i) - 97 + 1) 32 i) ((p + i : Nat) : Int)) (lsq B n p) (fun i m hi => ?_) (fun m => ?_) (by omega)
  · have hb := lsq_let hi
    obtain ⟨d1, d2⟩ := dgs_lt (f := fun i => B (p + i) - 97 + 1) (m := 32) (by decide) i (fun k hk => by have := lsq_let (B := B) (n := n) (p := p) (i := k) (by omega); exact ⟨by omega, by show B (p + k) - 97 + 1 < 32; omega⟩)
    have d3 : (32 : Nat) ^ i ≤ 32 ^ 8 := Nat.pow_le_pow_right (by decide) (by omega)
    have e8 : (32 : Nat) ^ 8 = 1099511627776 := by decide
    have d1' : (0 : Int) ≤ dgs (fun i => B (p + i) - 97 + 1) 32 i := d1
    have d2' : dgs (fun i => B (p + i) - 97 + 1) 32 i < ((32 ^ i : Nat) : Int) := d2
    show l_X9_wordNumber_7 T M _ (m + 1) (dgs (fun i => B (p + i) - 97 + 1) 32 i) ((p + i : Nat) : Int) = l_X9_wordNumber_7 T M _ m (dgs (fun i => B (p + i) - 97 + 1) 32 i * 32 + (B (p + i) - 97 + 1)) ((p + (i + 1) : Nat) : Int)
    rw [l_X9_wordNumber_7, h2, w4, Int.toNat_natCast, hB _ (by omega)]
    exact c_neg (by omega) (c_ite (by omega) (c_ite (by omega) (c_ite (by omega) (c_ite (by omega) (c_ite (by omega) (c_ite (by omega) rfl))))))
  · show l_X9_wordNumber_7 T M _ (m + 1) _ ((p + lsq B n p : Nat) : Int) = _
    rw [l_X9_wordNumber_7, h2, w4]
    exact c_pos (Int.le_refl _) rfl
theorem kN_ok (h : kS B n p = 2) : ((kN B n p : Nat) : Int) = dgs (fun i => B (p + i) - 48) 10 (dsq B n p) ∧ kN B n p < 1000 := by
  obtain ⟨h1, h2, h3, -⟩ := kS_whole h
  obtain ⟨h5, h6⟩ := dgs_lt (f := fun i => B (p + i) - 48) (m := 10) (by decide) (dsq B n p) (fun k hk => by have := dsq_dig hk; exact ⟨by omega, by show B (p + k) - 48 < 10; omega⟩)
  have h7 : (10 : Nat) ^ dsq B n p ≤ 10 ^ 3 := Nat.pow_le_pow_right (by decide) h3
  have h8 : (0 : Int) ≤ dgs (fun i => B (p + i) - 48) 10 (dsq B n p) := h5
  have h12 : dgs (fun i => B (p + i) - 48) 10 (dsq B n p) < ((10 ^ dsq B n p : Nat) : Int) := h6
  have e8 : (10 : Nat) ^ 3 = 1000 := by decide
  unfold kN
  omega
theorem CK.whole (hn : n ≤ 900) (h : CK B n M p) (hw : kS B n p = 2) : f_X9_wholeNumber T M = some ((kN B n p : Nat) : Int) := by
  obtain ⟨⟨h1, h2, h3, h4⟩, hp, hB⟩ := h
  obtain ⟨w1, w2, w3, w4⟩ := kS_whole hw
  have hle := dsq_le (B := B) (n := n) (p := p)
  unfold f_X9_wholeNumber
  rw [h3, (kN_ok hw).1]
  refine for_until (fun i m => l_X9_wholeNumber_7 T M (fun w7 w8 => some w7) m (dgs (fun i => B (p + i) - 48) 10 i) ((p + i : Nat) : Int)) (dsq B n p) (fun i m hi => ?_) (fun m => ?_) (by omega)
  · have hb := dsq_dig hi
    obtain ⟨d1, d2⟩ := dgs_lt (f := fun i => B (p + i) - 48) (m := 10) (by decide) i (fun k hk => by have := dsq_dig (B := B) (n := n) (p := p) (i := k) (by omega); exact ⟨by omega, by show B (p + k) - 48 < 10; omega⟩)
    have d3 : (10 : Nat) ^ i ≤ 10 ^ 3 := Nat.pow_le_pow_right (by decide) (by omega)
    have e8 : (10 : Nat) ^ 3 = 1000 := by decide
    have d1' : (0 : Int) ≤ dgs (fun i => B (p + i) - 48) 10 i := d1
    have d2' : dgs (fun i => B (p + i) - 48) 10 i < ((10 ^ i : Nat) : Int) := d2
    show l_X9_wholeNumber_7 T M _ (m + 1) (dgs (fun i => B (p + i) - 48) 10 i) ((p + i : Nat) : Int) = l_X9_wholeNumber_7 T M _ m (dgs (fun i => B (p + i) - 48) 10 i * 10 + (B (p + i) - 48)) ((p + (i + 1) : Nat) : Int)
    rw [l_X9_wholeNumber_7, h2, w4, Int.toNat_natCast, hB _ (by omega)]
    exact c_neg (by omega) (c_ite (by omega) (c_ite (by omega) (c_ite (by omega) (c_ite (by omega) (c_ite (by omega) rfl)))))
  · show l_X9_wholeNumber_7 T M _ (m + 1) _ ((p + dsq B n p : Nat) : Int) = _
    rw [l_X9_wholeNumber_7, h2, w4]
    exact c_pos (Int.le_refl _) rfl
end Tkc
