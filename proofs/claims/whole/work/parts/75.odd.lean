/-! ===== fractions in lowest terms; odds ===== -/
section Odd
variable {A : aA} {S : Nat → Int} {T e w : Nat} {M M1 M0 : aM}
/-- Euclid's turns -/
def eu (x y : Nat) : Nat → Nat × Nat
  | 0 => (x, y)
  | i + 1 => if (eu x y i).2 = 0 then eu x y i else ((eu x y i).2, (eu x y i).1 % (eu x y i).2)
theorem eu_gcd (x y : Nat) : ∀ i, Nat.gcd (eu x y i).1 (eu x y i).2 = Nat.gcd x y
  | 0 => rfl
  | i + 1 => by
    have ih := eu_gcd x y i
    by_cases h : (eu x y i).2 = 0
    · rw [show eu x y (i + 1) = eu x y i from if_pos h]; exact ih
    · rw [show eu x y (i + 1) = ((eu x y i).2, (eu x y i).1 % (eu x y i).2) from if_neg h]
      show Nat.gcd (eu x y i).2 ((eu x y i).1 % (eu x y i).2) = _
      rw [← ih, Nat.gcd_comm (eu x y i).1, Nat.gcd_rec (eu x y i).2 (eu x y i).1, Nat.gcd_comm]
theorem eu_two (x y i : Nat) : 2 * (eu x y (i + 2)).2 ≤ (eu x y i).2 := by
  by_cases h : (eu x y i).2 = 0
  · have e1 : eu x y (i + 1) = eu x y i := if_pos h
    have e2 : eu x y (i + 2) = eu x y (i + 1) := if_pos (by rw [e1]; exact h)
    rw [e2, e1, h]; omega
  · have e1 : eu x y (i + 1) = ((eu x y i).2, (eu x y i).1 % (eu x y i).2) := if_neg h
    have hlt := Nat.mod_lt (eu x y i).1 (show 0 < (eu x y i).2 by omega)
    by_cases h2 : (eu x y i).1 % (eu x y i).2 = 0
    · have e2 : eu x y (i + 2) = eu x y (i + 1) := if_pos (by rw [e1]; exact h2)
      rw [e2, e1, h2]; omega
    · have e2 : eu x y (i + 2) = ((eu x y (i + 1)).2, (eu x y (i + 1)).1 % (eu x y (i + 1)).2) := if_neg (by rw [e1]; exact h2)
      rw [e2, e1]
      show 2 * ((eu x y i).2 % ((eu x y i).1 % (eu x y i).2)) ≤ (eu x y i).2
      generalize (eu x y i).2 = b at *
      generalize (eu x y i).1 % b = r at *
      have h3 := Nat.mod_lt b (show 0 < r by omega)
      have h4 := Nat.div_add_mod b r
      have h5 : 1 ≤ b / r := (Nat.one_le_div_iff (by omega)).mpr (by omega)
      have h6 : r * 1 ≤ r * (b / r) := Nat.mul_le_mul_left r h5
      omega
theorem eu_half (x y : Nat) : ∀ k, 2 ^ k * (eu x y (2 * k)).2 ≤ y
  | 0 => by show 1 * y ≤ y; omega
  | k + 1 => by
    have ih := eu_half x y k
    have h := eu_two x y (2 * k)
    rw [show 2 * (k + 1) = 2 * k + 2 by omega, Nat.pow_succ, Nat.mul_assoc]
    exact Nat.le_trans (Nat.mul_le_mul_left _ h) ih
theorem eu_end {x y : Nat} (hy : y < 2 ^ 44) : (eu x y 90).2 = 0 := by
  have := eu_half x y 45
  rcases Nat.eq_zero_or_pos (eu x y 90).2 with h | h
  · exact h
  · have h2 : 2 ^ 45 * 1 ≤ 2 ^ 45 * (eu x y (2 * 45)).2 := Nat.mul_le_mul_left _ h
    have h3 : (2 : Nat) ^ 44 < 2 ^ 45 * 1 := by decide
    omega
/-- the turns it takes -/
def eun (x y : Nat) : Nat := fst (fun i => decide ((eu x y i).2 = 0)) 91
theorem eun_ok {x y : Nat} (hy : y < 2 ^ 44) : eun x y < 91 ∧ (eu x y (eun x y)).2 = 0 ∧ (∀ i, i < eun x y → (eu x y i).2 ≠ 0) ∧ (eu x y (eun x y)).1 = Nat.gcd x y := by
  have hlt : eun x y < 91 := by
    rcases Nat.lt_or_ge (eun x y) 91 with h | h
    · exact h
    · have := fst_no (fun i => decide ((eu x y i).2 = 0)) 91 90 (by unfold eun at h; omega)
      rw [decide_eq_false_iff_not] at this
      exact absurd (eu_end hy) this
  have h0 : (eu x y (eun x y)).2 = 0 := by
    have := fst_yes (fun i => decide ((eu x y i).2 = 0)) 91 hlt
    exact of_decide_eq_true this
  refine ⟨hlt, h0, fun i hi => ?_, ?_⟩
  · have := fst_no (fun i => decide ((eu x y i).2 = 0)) 91 i hi
    exact of_decide_eq_false this
  · have := eu_gcd x y (eun x y)
    rw [h0, Nat.gcd_zero_right] at this
    exact this
theorem eu_bnd {x y B : Nat} (hx : x < B) (hy : y < B) : ∀ i, (eu x y i).1 < B ∧ (eu x y i).2 < B
  | 0 => ⟨hx, hy⟩
  | i + 1 => by
    have ih := eu_bnd hx hy i
    by_cases h : (eu x y i).2 = 0
    · rw [show eu x y (i + 1) = eu x y i from if_pos h]; exact ih
    · rw [show eu x y (i + 1) = ((eu x y i).2, (eu x y i).1 % (eu x y i).2) from if_neg h]
      exact ⟨ih.2, Nat.lt_of_lt_of_le (Nat.mod_lt _ (by omega)) (by have := ih.2; omega)⟩
/-- a fraction's upper or lower number, in lowest terms -/
def frc (up un : Nat) (lower : Bool) : Int := if un = 0 then bI lower else (((if lower then un else up) / Nat.gcd up un : Nat) : Int)
theorem h_lowest {up un : Nat} (h1 : up < 2 ^ 50) (h2 : un < 2 ^ 44) {lo : Int} : f_X11_inLowestTerms T (up : Int) (un : Int) lo M = some (frc up un (!decide (lo = 0))) := by
  have p44 : (2 : Nat) ^ 44 = 17592186044416 := by decide
  have p50 : (2 : Nat) ^ 50 = 1125899906842624 := by decide
  unfold f_X11_inLowestTerms frc
  by_cases hu : up = 0
  · refine c_pos (alcmp_pos.mpr (by omega)) ?_
    by_cases hn : un = 0
    · rw [if_pos hn]
      by_cases hl : lo = 0
      · rw [if_pos hl, decide_eq_true hl]; rfl
      · rw [if_neg hl, decide_eq_false hl]; rfl
    · rw [if_neg hn, hu, Nat.gcd_zero_left]
      by_cases hl : lo = 0
      · rw [if_pos hl, decide_eq_true hl]
        show some (0 : Int) = some (((0 / un : Nat)) : Int)
        rw [Nat.zero_div]; rfl
      · rw [if_neg hl, decide_eq_false hl]
        show some (1 : Int) = some (((un / un : Nat)) : Int)
        rw [Nat.div_self (by omega)]; rfl
  · refine c_neg (fun h => by have := alcmp_pos.mp h; omega) ?_
    by_cases hn : un = 0
    · rw [if_pos hn]
      refine c_neg (fun h => by have := alcmp_gt.mp h; omega) ?_
      by_cases hl : lo = 0
      · rw [if_pos hl, decide_eq_true hl]; rfl
      · rw [if_neg hl, decide_eq_false hl]; rfl
    · rw [if_neg hn]
      refine c_pos (alcmp_gt.mpr (by omega)) ?_
      obtain ⟨e1, e2, e3, e4⟩ := eun_ok (x := up) (y := un) h2
      have hb := fun i => eu_bnd (B := 2 ^ 50) h1 (Nat.lt_trans h2 (by decide)) i
      have hg : 0 < Nat.gcd up un := Nat.gcd_pos_of_pos_right _ (by omega)
      have hgb := (hb (eun up un)).1
      rw [e4] at hgb
      refine for_until (fun i n => l_X11_inLowestTerms_32 T (up : Int) (un : Int) lo M _ n ((eu up un i).1 : Int) ((eu up un i).2 : Int) (i : Int)) (eun up un) (fun i n hi => ?_) (fun n => ?_) (by omega)
      · have hne := e3 i hi
        have := hb i
        show l_X11_inLowestTerms_32 T (up : Int) (un : Int) lo M _ (n + 1) ((eu up un i).1 : Int) ((eu up un i).2 : Int) (i : Int) = l_X11_inLowestTerms_32 T (up : Int) (un : Int) lo M _ n ((eu up un (i + 1)).1 : Int) ((eu up un (i + 1)).2 : Int) ((i + 1 : Nat) : Int)
        rw [l_X11_inLowestTerms_32, show eu up un (i + 1) = ((eu up un i).2, (eu up un i).1 % (eu up un i).2) from if_neg hne, alrem_nat (by omega) (by omega)]
        exact c_neg (by omega) (c_neg (fun h => by have := alcmp_eq.mp h; omega) (c_ite (by omega) (c_ite (by omega) rfl)))
      · show l_X11_inLowestTerms_32 T (up : Int) (un : Int) lo M _ (n + 1) ((eu up un (eun up un)).1 : Int) ((eu up un (eun up un)).2 : Int) ((eun up un : Nat) : Int) = _
        rw [l_X11_inLowestTerms_32, e2, e4]
        refine c_neg (by omega) (c_pos rfl ?_)
        refine c_neg (fun h => by have := alcmp_eq.mp h; omega) ?_
        by_cases hl : lo = 0
        · rw [if_pos hl, decide_eq_true hl, aldiv_nat (by omega) (by omega)]
          exact c_ite (by omega) rfl
        · rw [if_neg hl, decide_eq_false hl, aldiv_nat (by omega) (by omega)]
          exact c_ite (by omega) rfl
theorem g_common {up un : Nat} (h1 : up < 2 ^ 50) (h2 : un < 2 ^ 44) : f_X13_common T (up : Int) (un : Int) M = some ((Nat.gcd up un : Nat) : Int) := by
  have p44 : (2 : Nat) ^ 44 = 17592186044416 := by decide
  have p50 : (2 : Nat) ^ 50 = 1125899906842624 := by decide
  obtain ⟨e1, e2, e3, e4⟩ := eun_ok (x := up) (y := un) h2
  have hb := fun i => eu_bnd (B := 2 ^ 50) h1 (Nat.lt_trans h2 (by decide)) i
  unfold f_X13_common
  refine for_until (fun i n => l_X13_common_6 T M (fun w3 w4 => some w3) n ((eu up un i).1 : Int) ((eu up un i).2 : Int)) (eun up un) (fun i n hi => ?_) (fun n => ?_) (by omega)
  · have hne := e3 i hi
    have := hb i
    show l_X13_common_6 T M _ (n + 1) ((eu up un i).1 : Int) ((eu up un i).2 : Int) = l_X13_common_6 T M _ n ((eu up un (i + 1)).1 : Int) ((eu up un (i + 1)).2 : Int)
    rw [l_X13_common_6, show eu up un (i + 1) = ((eu up un i).2, (eu up un i).1 % (eu up un i).2) from if_neg hne, alrem_nat (by omega) (by omega)]
    exact c_neg (fun h => by have := alcmp_eq.mp h; omega) (c_ite (by omega) rfl)
  · show l_X13_common_6 T M _ (n + 1) ((eu up un (eun up un)).1 : Int) ((eu up un (eun up un)).2 : Int) = _
    rw [l_X13_common_6, e2, e4]
    exact c_pos rfl rfl
theorem oM_frac {up un : Nat} (h1 : up < 2 ^ 50) (h2 : un < 2 ^ 44) {lo : Int} (hs : sM M M1) : opM ((f_X13_fraction T (up : Int) (un : Int) lo M1).bind fun x22 => some (x22.1, x22.2)) M (frc up un (!decide (lo = 0)), 0) := by
  have p44 : (2 : Nat) ^ 44 = 17592186044416 := by decide
  have p50 : (2 : Nat) ^ 50 = 1125899906842624 := by decide
  have hq := qM_up (tr := 0) hs
  refine ⟨aup (aup M1 138 1 0) 138 2 (-1), ?_, hq⟩
  refine c_bind (v := (frc up un (!decide (lo = 0)), aup (aup M1 138 1 0) 138 2 (-1))) ?_ rfl
  unfold f_X13_fraction
  refine c_bind (v := (0, aup (aup M1 138 1 0) 138 2 (-1))) rfl ?_
  generalize aup (aup M1 138 1 0) 138 2 (-1) = M2
  unfold frc
  by_cases hn : un = 0
  · rw [if_pos hn]
    refine c_pos (alcmp_eq.mpr (by omega)) ?_
    by_cases hl : lo = 0
    · rw [if_pos hl, decide_eq_true hl]; rfl
    · rw [if_neg hl, decide_eq_false hl]; rfl
  · rw [if_neg hn]
    have hg : 0 < Nat.gcd up un := Nat.gcd_pos_of_pos_right _ (by omega)
    have hgb : Nat.gcd up un ≤ un := Nat.gcd_le_right _ (by omega)
    refine c_neg (fun h => by have := alcmp_eq.mp h; omega) ?_
    by_cases hl : lo = 0
    · rw [if_pos hl, decide_eq_true hl]
      refine c_bind (g_common h1 h2) (c_ite (by omega) ?_)
      rw [aldiv_nat (by omega) (by omega)]; rfl
    · rw [if_neg hl, decide_eq_false hl]
      refine c_bind (g_common h1 h2) (c_ite (by omega) ?_)
      rw [aldiv_nat (by omega) (by omega)]; rfl
/-- all weights -/
def wsm (A : aA) : Nat → Nat
  | 0 => 0
  | i + 1 => wsm A i + wg A i
theorem wsm_le (hA : WF A) : ∀ i, wsm A i ≤ i * 100000000
  | 0 => Nat.le_refl _
  | i + 1 => by
    have ih := wsm_le hA i
    have := wgt_small hA i (Nat.le_refl (A 0 5))
    show wsm A i + wg A i ≤ _
    have e : wg A i = wgt A i (A 0 5) := rfl
    omega
def sp_odds (A : aA) (c lo : Int) : Int × Int := gd (inr c (A 0 1)) (frc (wg A c.toNat) (wsm A (A 0 1)) (!decide (lo = 0))) 1
theorem c_odds (h : CQ M A S) (c lo : Int) : opC (f_X11_odds T c lo M) M (sp_odds A c lo) := by
  have hh := h
  obtain ⟨hA, hS, hC, hs, hL, hF⟩ := h
  have h8 := hA.1.2.1
  have p44 : (2 : Nat) ^ 44 = 17592186044416 := by decide
  have p50 : (2 : Nat) ^ 50 = 1125899906842624 := by decide
  unfold f_X11_odds sp_odds
  refine oC_isCave hC (fun hn => ?_) (fun c' hc hlt => ?_)
  · rw [gd_neg hn]; exact oC_ref
  · subst hc
    rw [gd_pos (inr_of hlt), Int.toNat_natCast]
    refine oC_bind rfl ?_
    have hup : ∀ n, n ≠ 0 → aup M 0 14 0 n = M n := fun n hn => aup_nc hn
    have hC2 : CT (aup M 0 14 0) A := by
      unfold CT at hC ⊢
      rw [hup 2 (by decide), hup 3 (by decide), hup 4 (by decide), hup 5 (by decide), hup 6 (by decide), hup 7 (by decide), hup 8 (by decide), hup 9 (by decide), hup 10 (by decide), hup 11 (by decide), hup 12 (by decide), hup 13 (by decide), hup 14 (by decide), hup 15 (by decide)]
      exact hC
    have hF2 : LD (aup M 0 14 0) 42 A (d1 A) := by
      unfold LD at hF ⊢
      rw [hup (42 + 1) (by decide), hup (42 + 2) (by decide)]; exact hF
    refine oC_bind (h_weightOf hA hC2 hF2 hlt) (oC_bind (v := ((wsm A (A 0 1) : Nat) : Int)) ?_ ?_)
    · unfold f_X2_allWeights
      refine for_until (fun i n => l_X2_allWeights_4 T (aup M 0 14 0) (fun w6 w7 => some w6) n ((wsm A i : Nat) : Int) (i : Int)) (A 0 1) (fun i n hi => ?_) (fun n => ?_) (by omega)
      · have h1 := wsm_le hA (i + 1)
        have e : wsm A (i + 1) = wsm A i + wg A i := rfl
        show l_X2_allWeights_4 T (aup M 0 14 0) _ (n + 1) _ (i : Int) = l_X2_allWeights_4 T (aup M 0 14 0) _ n ((wsm A (i + 1) : Nat) : Int) ((i + 1 : Nat) : Int)
        rw [l_X2_allWeights_4, hC2.1 1 (by decide)]
        refine c_neg (by omega) (c_bind (h_weightOf hA hC2 hF2 hi) (c_ite (by omega) (c_ite (by omega) ?_)))
        rw [e, Int.natCast_add]; rfl
      · show l_X2_allWeights_4 T (aup M 0 14 0) _ (n + 1) _ ((A 0 1 : Nat) : Int) = _
        rw [l_X2_allWeights_4, hC2.1 1 (by decide)]
        exact c_pos (Int.le_refl _) rfl
    · have h1 := wsm_le hA (A 0 1)
      have h2 := wgt_small hA c' (Nat.le_refl (A 0 5))
      have e : wg A c' = wgt A c' (A 0 5) := rfl
      refine oC_bind (h_lowest (by omega) (by omega)) ?_
      exact ⟨_, rfl, qC_up (sC.refl M)⟩
theorem m_odds (h : MD T M A S) (c lo : Int) : opM (f_X13_odds T c lo M) M (sp_odds A c lo) := by
  have hA := h.1
  have h8 := hA.1.2.1
  have p44 : (2 : Nat) ^ 44 = 17592186044416 := by decide
  have p50 : (2 : Nat) ^ 50 = 1125899906842624 := by decide
  unfold f_X13_odds sp_odds
  refine oM_bind rfl ?_
  have h1 : sM M (aup M 138 0 0) := sM_fl (by omega)
  have hm1 := h.of h1
  refine oM_isCave hm1 (fun hn => ?_) (fun c' hc hlt => ?_)
  · rw [gd_neg hn]; exact oM_ref h1
  · subst hc
    rw [gd_pos (inr_of hlt), Int.toNat_natCast]
    obtain ⟨w, hw⟩ := hm1.has (by omega)
    rw [hw.1, Int.toNat_natCast]
    refine oM_pos hw.2.1 (oM_bind (g_first hA hw) ?_)
    have hf := mf_lays hw
    have hsm := h1.trans (sM_lays (M := aup M 138 0 0) (A := A) (dr := d1 A))
    generalize laysM (aup M 138 0 0) A (d1 A) = M2 at hf hsm
    have hh := hf
    obtain ⟨⟨m1, m2, m3⟩, hL⟩ := hf
    have key : ∀ kk : Int → Int → Option (Int × aM), l_X13_odds_37 T (c' : Int) lo M2 kk FU 0 0 = kk ((wsm A (A 0 1) : Nat) : Int) (A 0 1 : Int) := by
      intro kk
      refine for_until (fun i n => l_X13_odds_37 T (c' : Int) lo M2 kk n ((wsm A i : Nat) : Int) (i : Int)) (A 0 1) (fun i n hi => ?_) (fun n => ?_) (by omega)
      · have h1 := wsm_le hA (i + 1)
        have e : wsm A (i + 1) = wsm A i + wg A i := rfl
        show l_X13_odds_37 T (c' : Int) lo M2 kk (n + 1) _ (i : Int) = l_X13_odds_37 T (c' : Int) lo M2 kk n ((wsm A (i + 1) : Nat) : Int) ((i + 1 : Nat) : Int)
        rw [l_X13_odds_37, m1, Int.toNat_natCast, m3.1.2.2.2.1]
        refine c_ite m2 (c_neg (by omega) (c_bind (g_weightOf hA hh hi) (c_ite (by omega) (c_ite (by omega) ?_))))
        rw [e, Int.natCast_add]; rfl
      · show l_X13_odds_37 T (c' : Int) lo M2 kk (n + 1) _ ((A 0 1 : Nat) : Int) = _
        rw [l_X13_odds_37, m1, Int.toNat_natCast, m3.1.2.2.2.1]
        exact c_ite m2 (c_pos (Int.le_refl _) rfl)
    show opM (l_X13_odds_37 T (c' : Int) lo M2 _ FU 0 0) M _
    rw [key]
    have h3 := wsm_le hA (A 0 1)
    have h2 := wgt_small hA c' (Nat.le_refl (A 0 5))
    have e : wg A c' = wgt A c' (A 0 5) := rfl
    exact oM_bind (g_weightOf hA hh hlt) (oM_frac (by omega) (by omega) hsm)
end Odd
