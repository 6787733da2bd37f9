/-! ===== droughts by draws: farBy, open ===== -/
section Drw
variable {A : aA} {S : Nat → Int} {T e w : Nat} {M M1 M0 : aM}
abbrev sW (S : Nat → Int) : Nat := (S 10).toNat
/-- seed and ways that stay wet, way by way -/
def dw (A : aA) (s x : Nat) : Nat → Nat × Nat
  | 0 => (x, 0)
  | i + 1 => if s.testBit i then ((75 * (dw A s x i).1 + 74) % 65537, if (75 * (dw A s x i).1 + 74) % 65537 % 100 < A 1 2 then (dw A s x i).2 else (dw A s x i).2 ||| 2 ^ i) else dw A s x i
theorem dw_seed {s x : Nat} (hx : x ≤ 65536) : ∀ i, (dw A s x i).1 ≤ 65536
  | 0 => hx
  | i + 1 => by
    have ih : (dw A s x i).1 ≤ 65536 := dw_seed hx i
    unfold dw
    split
    · show (75 * (dw A s x i).1 + 74) % 65537 ≤ 65536
      omega
    · exact ih
theorem dw_bit {s x : Nat} : ∀ i j, i ≤ j → (dw A s x i).2.testBit j = false
  | 0, j, _ => by show (0 : Nat).testBit j = false; exact Nat.zero_testBit j
  | i + 1, j, h => by
    have ih := dw_bit (s := s) (x := x) i j (by omega)
    unfold dw
    split
    · show (if (75 * (dw A s x i).1 + 74) % 65537 % 100 < A 1 2 then (dw A s x i).2 else (dw A s x i).2 ||| 2 ^ i).testBit j = false
      split
      · exact ih
      · rw [Nat.testBit_or, ih, Nat.testBit_two_pow_of_ne (by omega)]; rfl
    · exact ih
theorem dw_lt {s x i : Nat} (hi : i ≤ 10) : (dw A s x i).2 < 1024 := by
  have : (dw A s x i).2 < 2 ^ 10 := Nat.lt_pow_two_of_testBit _ fun j hj => dw_bit i j (by omega)
  exact this
/-- the class's set of wet ways, in the middle of it -/
def cw (A : aA) (s x i : Nat) : Nat := msk (fun j => if j < i then (dw A s x i).2.testBit j else s.testBit j) 10
theorem cw_0 {s x : Nat} (hs : s < 1024) : cw A s x 0 = s := by
  symm
  apply msk_eq
  intro j
  by_cases hj : j < 10
  · rw [decide_eq_true hj, Bool.true_and, if_neg (Nat.not_lt_zero j)]
  · rw [decide_eq_false hj, Bool.false_and]
    exact Nat.testBit_lt_two_pow (Nat.lt_of_lt_of_le hs (Nat.pow_le_pow_right (n := 2) (i := 10) (by decide) (by omega)))
theorem cw_end {s x n : Nat} (hn : n ≤ 10) (hs : s < 2 ^ n) : cw A s x n = (dw A s x n).2 := by
  symm
  apply msk_eq
  intro j
  by_cases hj : j < n
  · rw [decide_eq_true (by omega), Bool.true_and, if_pos hj]
  · rw [dw_bit n j (by omega), if_neg hj]
    rw [Nat.testBit_lt_two_pow (Nat.lt_of_lt_of_le hs (Nat.pow_le_pow_right (n := 2) (by decide) (by omega))), Bool.and_false]
theorem cw_lt (s x i : Nat) : cw A s x i < 2147483648 := msk_lt31 _ (by decide)
theorem cw_dry {s x i : Nat} (hi : i < 10) (hb : s.testBit i = true) (hd : (75 * (dw A s x i).1 + 74) % 65537 % 100 < A 1 2) : ndf (cw A s x i) (2 ^ i) = cw A s x (i + 1) := by
  have e : (dw A s x (i + 1)).2 = (dw A s x i).2 := by
    show (if s.testBit i then _ else _ : Nat × Nat).2 = _
    rw [if_pos hb]
    exact if_pos hd
  apply Nat.eq_of_testBit_eq
  intro j
  unfold cw
  rw [ndf_bit, msk_bit, msk_bit, e]
  by_cases hj : j < 10
  · rw [decide_eq_true hj, Bool.true_and, Bool.true_and]
    by_cases hji : i = j
    · subst hji
      rw [Nat.testBit_two_pow_self, Bool.not_true, Bool.and_false, if_pos (by omega), dw_bit i i (Nat.le_refl _)]
    · rw [Nat.testBit_two_pow_of_ne hji, Bool.not_false, Bool.and_true]
      by_cases hlt : j < i
      · rw [if_pos hlt, if_pos (by omega)]
      · rw [if_neg hlt, if_neg (by omega)]
  · rw [decide_eq_false hj, Bool.false_and, Bool.false_and, Bool.false_and]
theorem cw_wet {s x i : Nat} (hi : i < 10) (hb : s.testBit i = true) (hd : ¬ (75 * (dw A s x i).1 + 74) % 65537 % 100 < A 1 2) : cw A s x i = cw A s x (i + 1) := by
  have e : (dw A s x (i + 1)).2 = (dw A s x i).2 ||| 2 ^ i := by
    show (if s.testBit i then _ else _ : Nat × Nat).2 = _
    rw [if_pos hb]
    exact if_neg hd
  refine msk_cong fun j hj => ?_
  rw [e, Nat.testBit_or]
  by_cases hji : i = j
  · subst hji
    rw [if_neg (Nat.lt_irrefl _), if_pos (by omega), Nat.testBit_two_pow_self, Bool.or_true, hb]
  · rw [Nat.testBit_two_pow_of_ne hji, Bool.or_false]
    by_cases hlt : j < i
    · rw [if_pos hlt, if_pos (by omega)]
    · rw [if_neg hlt, if_neg (by omega)]
theorem cw_same {s x i : Nat} (hi : i < 10) (hb : s.testBit i = false) : cw A s x i = cw A s x (i + 1) := by
  have e : (dw A s x (i + 1)) = dw A s x i := by
    show (if s.testBit i then _ else _ : Nat × Nat) = _
    rw [if_neg (by rw [hb]; decide)]
  refine msk_cong fun j hj => ?_
  rw [e]
  by_cases hji : i = j
  · subst hji
    rw [if_neg (Nat.lt_irrefl _), if_pos (by omega), hb, dw_bit i i (Nat.le_refl _)]
  · by_cases hlt : j < i
    · rw [if_pos hlt, if_pos (by omega)]
    · rw [if_neg hlt, if_neg (by omega)]
theorem WS.s10 (hA : WF A) (h : WS A S) : sW S < 1024 ∧ sW S < 2 ^ A 0 2 ∧ S 10 = ((sW S : Nat) : Int) := by
  have h10 := hA.1.2.2.1
  have h1 := h.2.2.1.2.1
  have h2 := h.2.2.1.1
  refine ⟨Nat.lt_of_lt_of_le h1 (Nat.pow_le_pow_right (n := 2) (j := 10) (by decide) h10), h1, ?_⟩
  show S 10 = (((S 10).toNat : Nat) : Int)
  omega
theorem h_draws (h : CQ M A S) {x c t : Nat} (hx : x ≤ 65536) (hM : M 58 3 = (x : Int)) (hc : c < A 0 1) (ht : t < A 0 1) : ∃ M2, f_X0_spanByDraws T (c : Int) (t : Int) M = some ((cl (dst A (dry (dw A (sW S) x (A 0 2)).2) c t) : Int), M2) ∧ sC M M2 ∧ M2 58 3 = ((dw A (sW S) x (A 0 2)).1 : Int) := by
  have hA := h.1
  have h8 := hA.1.2.1
  have h10 := hA.1.2.2.1
  have hd2 := hA.2.1.2.2.1
  obtain ⟨s1, s2, s3⟩ := WS.s10 hA h.2.1
  have hup : ∀ y : Int, CQ (aup M 58 3 y) A S := fun y => h.of (sC_up (by decide))
  have e35 : ∀ y : Int, aup M 58 3 y 35 3 = ((sW S : Nat) : Int) := fun y => by rw [aup_nc (by decide), h.2.2.2.1.2.2.1]; exact s3
  have e0 : aup M 58 3 (x : Int) = M := by
    rw [aup_eq]
    have : (fun b => if b = 3 then (x : Int) else M 58 b) = M 58 := by
      funext b
      by_cases hb : b = 3
      · rw [if_pos hb, hb, hM]
      · rw [if_neg hb]
    rw [this, setc_self]
  have kl : ∀ kk : Int → Int → aM → Option (Int × aM), l_X0_spanByDraws_11 T (c : Int) (t : Int) kk FU (M 35 3) 0 M = kk ((dw A (sW S) x (A 0 2)).2 : Int) (A 0 2) (aup M 58 3 ((dw A (sW S) x (A 0 2)).1 : Int)) := by
    intro kk
    have := for_until (fun i n => l_X0_spanByDraws_11 T (c : Int) (t : Int) kk n ((cw A (sW S) x i : Nat) : Int) (i : Int) (aup M 58 3 ((dw A (sW S) x i).1 : Int))) (y := kk ((dw A (sW S) x (A 0 2)).2 : Int) (A 0 2) (aup M 58 3 ((dw A (sW S) x (A 0 2)).1 : Int))) (A 0 2) (fun i n hi => ?_) (fun n => ?_) (by omega)
    · have t2 : l_X0_spanByDraws_11 T (c : Int) (t : Int) kk FU ((cw A (sW S) x 0 : Nat) : Int) ((0 : Nat) : Int) (aup M 58 3 (x : Int)) = _ := this
      rw [cw_0 s1, e0] at t2
      rw [show M 35 3 = ((sW S : Nat) : Int) from h.2.2.2.1.2.2.1.trans s3]
      exact t2
    · have hq := hup ((dw A (sW S) x i).1 : Int)
      have hsd := dw_seed (A := A) (s := sW S) hx i
      show l_X0_spanByDraws_11 T (c : Int) (t : Int) kk (n + 1) ((cw A (sW S) x i : Nat) : Int) (i : Int) (aup M 58 3 ((dw A (sW S) x i).1 : Int)) = l_X0_spanByDraws_11 T (c : Int) (t : Int) kk n ((cw A (sW S) x (i + 1) : Nat) : Int) ((i + 1 : Nat) : Int) (aup M 58 3 ((dw A (sW S) x (i + 1)).1 : Int))
      rw [l_X0_spanByDraws_11, hq.2.2.1.1 2 (by decide), e35, aup_at]
      refine c_neg (by omega) (c_bind (h_hasBit (by omega) (by omega)) ?_)
      cases hb : (sW S).testBit i
      · have e : dw A (sW S) x (i + 1) = dw A (sW S) x i := by
          show (if (sW S).testBit i then _ else _ : Nat × Nat) = _
          rw [if_neg (by rw [hb]; decide)]
        rw [e, ← cw_same (by omega) hb]
        exact c_pos rfl (c_ite (by omega) rfl)
      · have e : (dw A (sW S) x (i + 1)).1 = (75 * (dw A (sW S) x i).1 + 74) % 65537 := by
          show (if (sW S).testBit i then _ else _ : Nat × Nat).1 = _
          rw [if_pos hb]
        have em : arem (75 * ((dw A (sW S) x i).1 : Int) + 74) 65537 = (((75 * (dw A (sW S) x i).1 + 74) % 65537 : Nat) : Int) := by
          rw [show 75 * ((dw A (sW S) x i).1 : Int) + 74 = ((75 * (dw A (sW S) x i).1 + 74 : Nat) : Int) by omega, show (65537 : Int) = ((65537 : Nat) : Int) from rfl]
          exact arem_nat (by omega) (by decide)
        have hlt : (75 * (dw A (sW S) x i).1 + 74) % 65537 < 65537 := Nat.mod_lt _ (by decide)
        refine c_neg (by decide) (c_ite (by omega) (c_ite (by omega) (c_some ?_)))
        rw [aup_aup, em, aup_at, (hup _).2.2.1.2.1.2.2.1, show (100 : Int) = ((100 : Nat) : Int) from rfl, arem_nat (by omega) (by decide), e]
        by_cases hd : (75 * (dw A (sW S) x i).1 + 74) % 65537 % 100 < A 1 2
        · refine c_neg (by omega) (c_ite (by omega) ?_)
          rw [ashl_one i (by omega), aandn (cw_lt _ _ _), cw_dry (by omega) hb hd]; rfl
        · refine c_pos (by omega) (c_ite (by omega) ?_)
          rw [cw_wet (by omega) hb hd]; rfl
    · show l_X0_spanByDraws_11 T (c : Int) (t : Int) kk (n + 1) ((cw A (sW S) x (A 0 2) : Nat) : Int) ((A 0 2 : Nat) : Int) _ = _
      rw [l_X0_spanByDraws_11, (hup _).2.2.1.1 2 (by decide), cw_end h10 s2]
      exact c_pos (Int.le_refl _) rfl
  have hq := hup ((dw A (sW S) x (A 0 2)).1 : Int)
  have hdl := dw_lt (A := A) (s := sW S) (x := x) h10
  have hlay := h_layFrom (T := T) (e := 45) (s := (dw A (sW S) x (A 0 2)).2) hA (Or.inr (Or.inr rfl)) hq.2.2.1.tw (by omega) hc
  refine ⟨setc (aup (aup M 58 3 ((dw A (sW S) x (A 0 2)).1 : Int)) 45 3 ((dw A (sW S) x (A 0 2)).2 : Int)) (45 + 2) (rw8 (aup M 58 3 ((dw A (sW S) x (A 0 2)).1 : Int) (45 + 2)) c (fun t => cl (dst A (dry (dw A (sW S) x (A 0 2)).2) c t))), ?_, ?_, ?_⟩
  · unfold f_X0_spanByDraws
    rw [kl]
    refine c_bind hlay (c_bind (h_span2 (by omega) (by omega) (LD_row hA hc (by omega))) rfl)
  · exact (sC_up (by decide)).trans sC_row
  · show (setc (aup (aup M 58 3 _) 45 3 _) (45 + 2) _) 58 3 = _
    rw [setc_ne (by decide), aup_nc (by decide), aup_at]
theorem g_dries (hA : WF A) (hS : WS A S) (hm : MV T M w A) (h140 : M 140 10 = S 10) {x : Nat} (hx : x ≤ 65536) (hM : M 138 37 = (x : Int)) : ∃ M2, f_X13_dries T M = some (0, M2) ∧ sM M M2 ∧ MV T M2 w A ∧ LM M2 A (dry (dw A (sW S) x (A 0 2)).2) ∧ M2 138 37 = ((dw A (sW S) x (A 0 2)).1 : Int) := by
  have h8 := hA.1.2.1
  have h10 := hA.1.2.2.1
  obtain ⟨s1, s2, s3⟩ := WS.s10 hA hS
  have hup : ∀ y : Int, MV T (aup M 138 37 y) w A := fun y => mv_aup hm ⟨by decide, fun _ => by decide⟩
  have e140 : ∀ y : Int, aup M 138 37 y 140 10 = ((sW S : Nat) : Int) := fun y => by rw [aup_nc (by decide), h140]; exact s3
  have e0 : aup M 138 37 (x : Int) = M := by
    rw [aup_eq]
    have : (fun b => if b = 37 then (x : Int) else M 138 b) = M 138 := by
      funext b
      by_cases hb : b = 37
      · rw [if_pos hb, hb, hM]
      · rw [if_neg hb]
    rw [this, setc_self]
  have kl : ∀ kk : Int → Int → aM → Option (Int × aM), l_X13_dries_4 T kk FU 0 0 M = kk ((dw A (sW S) x (A 0 2)).2 : Int) (A 0 2) (aup M 138 37 ((dw A (sW S) x (A 0 2)).1 : Int)) := by
    intro kk
    have := for_until (fun i n => l_X13_dries_4 T kk n ((dw A (sW S) x i).2 : Int) (i : Int) (aup M 138 37 ((dw A (sW S) x i).1 : Int))) (y := kk ((dw A (sW S) x (A 0 2)).2 : Int) (A 0 2) (aup M 138 37 ((dw A (sW S) x (A 0 2)).1 : Int))) (A 0 2) (fun i n hi => ?_) (fun n => ?_) (by omega)
    · have t2 : l_X13_dries_4 T kk FU (((0 : Nat)) : Int) ((0 : Nat) : Int) (aup M 138 37 (x : Int)) = _ := this
      rw [e0] at t2
      exact t2
    · obtain ⟨m1, m2, m3⟩ := hup ((dw A (sW S) x i).1 : Int)
      have hsd := dw_seed (A := A) (s := sW S) hx i
      have hdl := dw_lt (A := A) (s := sW S) (x := x) (i := i) (by omega)
      show l_X13_dries_4 T kk (n + 1) ((dw A (sW S) x i).2 : Int) (i : Int) (aup M 138 37 ((dw A (sW S) x i).1 : Int)) = l_X13_dries_4 T kk n ((dw A (sW S) x (i + 1)).2 : Int) ((i + 1 : Nat) : Int) (aup M 138 37 ((dw A (sW S) x (i + 1)).1 : Int))
      rw [l_X13_dries_4, m1, Int.toNat_natCast, m3.1.2.2.2.2.2.1, e140, aup_at]
      refine c_ite m2 (c_neg (by omega) (c_bind (h_bit (by omega) (by omega)) ?_))
      cases hb : (sW S).testBit i
      · have e : dw A (sW S) x (i + 1) = dw A (sW S) x i := by
          show (if (sW S).testBit i then _ else _ : Nat × Nat) = _
          rw [if_neg (by rw [hb]; decide)]
        rw [e]
        exact c_pos rfl (c_ite (by omega) rfl)
      · have em : alrem (75 * ((dw A (sW S) x i).1 : Int) + 74) 65537 = (((75 * (dw A (sW S) x i).1 + 74) % 65537 : Nat) : Int) := by
          rw [show 75 * ((dw A (sW S) x i).1 : Int) + 74 = ((75 * (dw A (sW S) x i).1 + 74 : Nat) : Int) by omega, show (65537 : Int) = ((65537 : Nat) : Int) from rfl]
          exact alrem_nat (by omega) (by decide)
        have hlt : (75 * (dw A (sW S) x i).1 + 74) % 65537 < 65537 := Nat.mod_lt _ (by decide)
        have hdw : dw A (sW S) x (i + 1) = ((75 * (dw A (sW S) x i).1 + 74) % 65537, if (75 * (dw A (sW S) x i).1 + 74) % 65537 % 100 < A 1 2 then (dw A (sW S) x i).2 else (dw A (sW S) x i).2 ||| 2 ^ i) := by
          show (if (sW S).testBit i then _ else _ : Nat × Nat) = _
          rw [if_pos hb]
        rw [em]
        refine c_neg (by decide) (c_ite (by omega) (c_ite (by omega) (c_ite (by omega) (c_some ?_))))
        obtain ⟨p1, p2, p3⟩ := hup (((75 * (dw A (sW S) x i).1 + 74) % 65537 : Nat) : Int)
        rw [aup_aup, p1, Int.toNat_natCast, aup_at, p3.1.2.2.1, show (100 : Int) = ((100 : Nat) : Int) from rfl, arem_nat (by omega) (by decide), hdw]
        refine c_ite p2 ?_
        by_cases hd : (75 * (dw A (sW S) x i).1 + 74) % 65537 % 100 < A 1 2
        · refine c_neg (by omega) (c_ite (by omega) ?_)
          rw [aor_0 (by omega), if_pos hd]; rfl
        · refine c_pos (by omega) (c_ite (by omega) ?_)
          rw [ashl_one i (by omega), aor_nat (by omega) (Nat.pow_lt_pow_right (a := 2) (n := 31) (by decide) (by omega)), if_neg hd]; rfl
    · obtain ⟨m1, m2, m3⟩ := hup ((dw A (sW S) x (A 0 2)).1 : Int)
      show l_X13_dries_4 T kk (n + 1) ((dw A (sW S) x (A 0 2)).2 : Int) ((A 0 2 : Nat) : Int) _ = _
      rw [l_X13_dries_4, m1, Int.toNat_natCast, m3.1.2.2.2.2.2.1]
      exact c_ite m2 (c_pos (Int.le_refl _) rfl)
  have hdl := dw_lt (A := A) (s := sW S) (x := x) h10
  have hmv := hup ((dw A (sW S) x (A 0 2)).1 : Int)
  have hlay := h_lays (T := T) (s := (dw A (sW S) x (A 0 2)).2) hA hmv (by omega) (-1)
  rw [drw_none] at hlay
  refine ⟨laysM (aup M 138 37 ((dw A (sW S) x (A 0 2)).1 : Int)) A (dry (dw A (sW S) x (A 0 2)).2), ?_, (sM_fl (by omega)).trans sM_lays, mv_laysM hmv, laysM_LM, ?_⟩
  · unfold f_X13_dries
    rw [kl]
    exact c_bind hlay rfl
  · rw [laysM_ne (by decide), aup_at]
def sp_farBy (A : aA) (S : Nat → Int) (c t x : Int) : Int × Int := if inr c (A 0 1) ∧ inr t (A 0 1) then (if 0 ≤ x ∧ x ≤ 65536 then (tol (dst A (dry (dw A (sW S) x.toNat (A 0 2)).2) c.toNat t.toNat), 0) else (-1, 2)) else (-1, 1)
theorem oC_seed {v : Int} {x y : Option (Int × aM)} {r : Int × Int} (h1 : ¬ (0 ≤ v ∧ v ≤ 65536) → opC x M0 r) (h2 : 0 ≤ v ∧ v ≤ 65536 → opC y M0 r) : opC ((f_X11_isSeed T v M).bind fun z => if z = 0 then x else y) M0 r := by
  by_cases hp : 0 ≤ v ∧ v ≤ 65536
  · refine oC_bind (v := 1) ?_ (oC_neg (by decide) (h2 hp))
    unfold f_X11_isSeed
    rw [if_neg (by omega), if_neg (by omega)]
  · refine oC_bind (v := 0) ?_ (oC_pos rfl (h1 hp))
    unfold f_X11_isSeed
    by_cases h : v < 0
    · rw [if_pos h]
    · rw [if_neg h, if_pos (by omega)]
theorem c_farBy (h : CQ M A S) (c t x : Int) : opC (f_X11_farBy T c t x M) M (sp_farBy A S c t x) := by
  unfold f_X11_farBy sp_farBy
  refine oC_isCave h.2.2.1 (fun hn => ?_) (fun c' hc hlt => ?_)
  · rw [if_neg (fun h => hn h.1)]; exact oC_ref
  · refine oC_isCave h.2.2.1 (fun hn => ?_) (fun t' ht hlt2 => ?_)
    · rw [if_neg (fun h => hn h.2)]; exact oC_ref
    · subst hc ht
      rw [if_pos ⟨inr_of hlt, inr_of hlt2⟩]
      refine oC_seed (fun hn => ?_) (fun hp => ?_)
      · rw [if_neg hn]; exact oC_ref
      · rw [if_pos hp]
        obtain ⟨q, rfl⟩ : ∃ q : Nat, x = (q : Int) := ⟨x.toNat, by omega⟩
        have hsc : sC M (aup M 58 3 (q : Int)) := sC_up (by decide)
        obtain ⟨M2, e1, e2, e3⟩ := h_draws (T := T) (h.of hsc) (x := q) (by omega) aup_at hlt hlt2
        rw [Int.toNat_natCast, Int.toNat_natCast, Int.toNat_natCast]
        exact oC_bind rfl (oC_bind e1 (oC_bind (h_orNo _ (dst_le h.1 _ _)) (oC_al (hsc.trans e2))))
theorem m_farBy (h : MD T M A S) (c t x : Int) : opM (f_X13_farBy T c t x M) M (sp_farBy A S c t x) := by
  have h8 := h.1.1.2.1
  unfold f_X13_farBy sp_farBy
  refine oM_bind rfl ?_
  have h1 : sM M (aup M 138 0 0) := sM_fl (by omega)
  have hm1 := h.of h1
  refine oM_isCave hm1 (fun hn => ?_) (fun c' hc hlt => ?_)
  · rw [if_neg (fun h => hn h.1)]; exact oM_ref h1
  · refine oM_isCave hm1 (fun hn => ?_) (fun t' ht hlt2 => ?_)
    · rw [if_neg (fun h => hn h.2)]; exact oM_ref h1
    · subst hc ht
      rw [if_pos ⟨inr_of hlt, inr_of hlt2⟩]
      refine oM_in (fun hn => ?_) (fun hp => ?_)
      · rw [if_neg hn]; exact oM_ref h1
      · rw [if_pos hp]
        obtain ⟨q, rfl⟩ : ∃ q : Nat, x = (q : Int) := ⟨x.toNat, by omega⟩
        obtain ⟨w, hw⟩ := hm1.has (by omega)
        have hsm : sM (aup M 138 0 0) (aup (aup M 138 0 0) 138 37 (q : Int)) := sM_fl (by omega)
        obtain ⟨M2, e1, e2, e3, e4, e5⟩ := g_dries (T := T) h.1 h.2.1 (hw.of hsm) (by rw [(hm1.of hsm).2.2.2 10 (by decide)]) (x := q) (by omega) aup_at
        rw [Int.toNat_natCast, Int.toNat_natCast, Int.toNat_natCast]
        exact oM_bind rfl (oM_bind e1 (oM_bind (g_apart e4 (by omega) (by omega)) (oM_bind (g_told _) (oM_good (h1.trans (hsm.trans e2))))))
/-- seeds, draw by draw -/
def sdq (A : aA) (s x : Nat) : Nat → Nat
  | 0 => x
  | i + 1 => (dw A s (sdq A s x i) (A 0 2)).1
theorem sdq_le {s x : Nat} (hx : x ≤ 65536) : ∀ i, sdq A s x i ≤ 65536
  | 0 => hx
  | i + 1 => dw_seed (sdq_le hx i) _
def opn (A : aA) (s x c t : Nat) (i : Nat) : Bool := decide (dst A (dry (dw A s (sdq A s x i) (A 0 2)).2) c t < 9999)
def sp_open (A : aA) (S : Nat → Int) (c t x n : Int) : Int × Int := if inr c (A 0 1) ∧ inr t (A 0 1) then (if (0 ≤ x ∧ x ≤ 65536) ∧ 0 ≤ n ∧ n ≤ 60 then (((cntp (opn A (sW S) x.toNat c.toNat t.toNat) n.toNat : Nat) : Int), 0) else (-1, 2)) else (-1, 1)
theorem c_open (h : CQ M A S) (c t x m : Int) : opC (f_X11_open T c t x m M) M (sp_open A S c t x m) := by
  unfold f_X11_open sp_open
  refine oC_isCave h.2.2.1 (fun hn => ?_) (fun c' hc hlt => ?_)
  · rw [if_neg (fun h => hn h.1)]; exact oC_ref
  · refine oC_isCave h.2.2.1 (fun hn => ?_) (fun t' ht hlt2 => ?_)
    · rw [if_neg (fun h => hn h.2)]; exact oC_ref
    · subst hc ht
      rw [if_pos (show inr ((c' : Nat) : Int) (A 0 1) ∧ inr ((t' : Nat) : Int) (A 0 1) from ⟨inr_of hlt, inr_of hlt2⟩)]
      refine oC_seed (fun hn => ?_) (fun hp => ?_)
      · rw [if_neg (show ¬ ((0 ≤ x ∧ x ≤ 65536) ∧ 0 ≤ m ∧ m ≤ 60) from fun h => hn h.1)]; exact oC_ref
      · by_cases hm0 : m < 0
        · rw [if_neg (show ¬ ((0 ≤ x ∧ x ≤ 65536) ∧ 0 ≤ m ∧ m ≤ 60) by omega)]; exact oC_pos hm0 oC_ref
        · refine oC_neg hm0 ?_
          by_cases hm6 : m ≤ 60
          · rw [if_pos (show (0 ≤ x ∧ x ≤ 65536) ∧ 0 ≤ m ∧ m ≤ 60 by omega)]
            obtain ⟨q, rfl⟩ : ∃ q : Nat, x = (q : Int) := ⟨x.toNat, by omega⟩
            obtain ⟨k, rfl⟩ : ∃ k : Nat, m = (k : Int) := ⟨m.toNat, by omega⟩
            rw [Int.toNat_natCast, Int.toNat_natCast, Int.toNat_natCast, Int.toNat_natCast]
            refine oC_pos hm6 (oC_bind rfl ?_)
            have hsc : sC M (aup M 58 3 (q : Int)) := sC_up (by decide)
            obtain ⟨Z, hZ, n, hrun⟩ := for_inv (fun n i (Z : aM) => l_X11_open_61 T (c' : Int) (t' : Int) (k : Int) (fun w35 w36 m38 => (f_X11_allow T w35 m38).bind fun x40 => some (x40.1, x40.2)) n ((cntp (opn A (sW S) q c' t') i : Nat) : Int) (i : Int) Z) (fun i Z => sC M Z ∧ Z 58 3 = ((sdq A (sW S) q i : Nat) : Int)) k (fun i n Z hi hZ => by
              obtain ⟨M2, e1, e2, e3⟩ := h_draws (T := T) (h.of hZ.1) (sdq_le (by omega) i) hZ.2 hlt hlt2
              have hcl := cntp_le (opn A (sW S) q c' t') i
              have ec : cntp (opn A (sW S) q c' t') (i + 1) = cntp (opn A (sW S) q c' t') i + (if opn A (sW S) q c' t' i then 1 else 0) := rfl
              refine ⟨M2, ⟨hZ.1.trans e2, e3⟩, ?_⟩
              show l_X11_open_61 T (c' : Int) (t' : Int) (k : Int) _ (n + 1) ((cntp (opn A (sW S) q c' t') i : Nat) : Int) (i : Int) Z = l_X11_open_61 T (c' : Int) (t' : Int) (k : Int) _ n ((cntp (opn A (sW S) q c' t') (i + 1) : Nat) : Int) ((i + 1 : Nat) : Int) M2
              rw [l_X11_open_61]
              refine c_neg (by omega) (c_bind e1 ?_)
              by_cases hf : dst A (dry (dw A (sW S) (sdq A (sW S) q i) (A 0 2)).2) c' t' < 9999
              · rw [if_pos (show opn A (sW S) q c' t' i = true from decide_eq_true hf)] at ec
                rw [ec]
                exact c_neg (by unfold cl; rw [if_pos hf]; omega) (c_ite (by omega) (c_ite (by omega) rfl))
              · rw [if_neg (show ¬ opn A (sW S) q c' t' i = true from fun h => hf (of_decide_eq_true h))] at ec
                rw [ec]
                exact c_pos (by unfold cl; rw [if_neg hf]; exact Int.le_refl 1000000) (c_ite (by omega) rfl)) (by omega) (aup M 58 3 (q : Int)) ⟨hsc, aup_at⟩
            have hrun2 : l_X11_open_61 T (c' : Int) (t' : Int) (k : Int) (fun w35 w36 m38 => (f_X11_allow T w35 m38).bind fun x40 => some (x40.1, x40.2)) FU 0 0 (aup M 58 3 (q : Int)) = l_X11_open_61 T (c' : Int) (t' : Int) (k : Int) (fun w35 w36 m38 => (f_X11_allow T w35 m38).bind fun x40 => some (x40.1, x40.2)) (n + 1) ((cntp (opn A (sW S) q c' t') k : Nat) : Int) (k : Int) Z := hrun
            show opC (l_X11_open_61 T (c' : Int) (t' : Int) (k : Int) _ FU 0 0 (aup M 58 3 (q : Int))) M _
            rw [hrun2, l_X11_open_61]
            exact oC_pos (Int.le_refl _) (oC_al hZ.1)
          · rw [if_neg (show ¬ ((0 ≤ x ∧ x ≤ 65536) ∧ 0 ≤ m ∧ m ≤ 60) by omega)]; exact oC_neg hm6 oC_ref
theorem m_open (h : MD T M A S) (c t x m : Int) : opM (f_X13_open T c t x m M) M (sp_open A S c t x m) := by
  have h8 := h.1.1.2.1
  unfold f_X13_open sp_open
  refine oM_bind rfl ?_
  have h1 : sM M (aup M 138 0 0) := sM_fl (by omega)
  have hm1 := h.of h1
  refine oM_isCave hm1 (fun hn => ?_) (fun c' hc hlt => ?_)
  · rw [if_neg (fun h => hn h.1)]; exact oM_ref h1
  · refine oM_isCave hm1 (fun hn => ?_) (fun t' ht hlt2 => ?_)
    · rw [if_neg (fun h => hn h.2)]; exact oM_ref h1
    · subst hc ht
      rw [if_pos ⟨inr_of hlt, inr_of hlt2⟩]
      refine oM_in (fun hn => ?_) (fun hp => ?_)
      · rw [if_neg (fun h => hn h.1)]; exact oM_ref h1
      · refine oM_in (fun hn => ?_) (fun hp2 => ?_)
        · rw [if_neg (fun h => hn h.2)]; exact oM_ref h1
        · rw [if_pos ⟨hp, hp2⟩]
          obtain ⟨q, rfl⟩ : ∃ q : Nat, x = (q : Int) := ⟨x.toNat, by omega⟩
          obtain ⟨k, rfl⟩ : ∃ k : Nat, m = (k : Int) := ⟨m.toNat, by omega⟩
          rw [Int.toNat_natCast, Int.toNat_natCast, Int.toNat_natCast, Int.toNat_natCast]
          refine oM_bind rfl ?_
          obtain ⟨w, hw⟩ := hm1.has (by omega)
          have hsm : sM (aup M 138 0 0) (aup (aup M 138 0 0) 138 37 (q : Int)) := sM_fl (by omega)
          have hs0 := h1.trans hsm
          obtain ⟨Z, hZ, n, hrun⟩ := for_inv (fun n i (Z : aM) => l_X13_open_66 T (c' : Int) (t' : Int) (k : Int) (fun w37 w38 m40 => (f_X13_good T w37 m40).bind fun x42 => some (x42.1, x42.2)) n ((cntp (opn A (sW S) q c' t') i : Nat) : Int) (i : Int) Z) (fun i Z => sM M Z ∧ MV T Z w A ∧ Z 138 37 = ((sdq A (sW S) q i : Nat) : Int)) k (fun i n Z hi hZ => by
            obtain ⟨M2, e1, e2, e3, e4, e5⟩ := g_dries (T := T) h.1 h.2.1 hZ.2.1 (by rw [(h.of hZ.1).2.2.2 10 (by decide)]) (sdq_le (by omega) i) hZ.2.2
            have hcl := cntp_le (opn A (sW S) q c' t') i
            have ec : cntp (opn A (sW S) q c' t') (i + 1) = cntp (opn A (sW S) q c' t') i + (if opn A (sW S) q c' t' i then 1 else 0) := rfl
            refine ⟨M2, ⟨hZ.1.trans e2, e3, e5⟩, ?_⟩
            show l_X13_open_66 T (c' : Int) (t' : Int) (k : Int) _ (n + 1) ((cntp (opn A (sW S) q c' t') i : Nat) : Int) (i : Int) Z = l_X13_open_66 T (c' : Int) (t' : Int) (k : Int) _ n ((cntp (opn A (sW S) q c' t') (i + 1) : Nat) : Int) ((i + 1 : Nat) : Int) M2
            rw [l_X13_open_66]
            refine c_neg (by omega) (c_bind e1 (c_bind (g_apart e4 (by omega) (by omega)) ?_))
            by_cases hf : dst A (dry (dw A (sW S) (sdq A (sW S) q i) (A 0 2)).2) c' t' < 9999
            · rw [if_pos (show opn A (sW S) q c' t' i = true from decide_eq_true hf)] at ec
              rw [ec]
              exact c_neg (by omega) (c_ite (by omega) (c_ite (by omega) rfl))
            · rw [if_neg (show ¬ opn A (sW S) q c' t' i = true from fun h => hf (of_decide_eq_true h))] at ec
              rw [ec, Int.add_zero]
              exact c_pos (by omega) (c_ite (by omega) (c_ite (by omega) rfl))) (by omega) (aup (aup M 138 0 0) 138 37 (q : Int)) ⟨hs0, hw.of hsm, aup_at⟩
          have hrun2 : l_X13_open_66 T (c' : Int) (t' : Int) (k : Int) (fun w37 w38 m40 => (f_X13_good T w37 m40).bind fun x42 => some (x42.1, x42.2)) FU 0 0 (aup (aup M 138 0 0) 138 37 (q : Int)) = l_X13_open_66 T (c' : Int) (t' : Int) (k : Int) (fun w37 w38 m40 => (f_X13_good T w37 m40).bind fun x42 => some (x42.1, x42.2)) (n + 1) ((cntp (opn A (sW S) q c' t') k : Nat) : Int) (k : Int) Z := hrun
          show opM (l_X13_open_66 T (c' : Int) (t' : Int) (k : Int) _ FU 0 0 (aup (aup M 138 0 0) 138 37 (q : Int))) M _
          rw [hrun2, l_X13_open_66]
          exact oM_pos (Int.le_refl _) (oM_good hZ.1)
end Drw
