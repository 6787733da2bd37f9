/-! ===== droughts by chance: within, mean ===== -/
section Dro
variable {A : aA} {S : Nat → Int} {T e w : Nat} {M M1 M0 : aM}
theorem CQ.of2 (h : CQ M A S) (e : ∀ n, 0 < n → n < 45 → M1 n = M n) : CQ M1 A S := by
  obtain ⟨hA, hS, hC, h35, h39, h42⟩ := h
  refine ⟨hA, hS, ?_, ?_, ?_, ?_⟩
  · unfold CT at hC ⊢
    rw [e 2 (by decide) (by decide), e 3 (by decide) (by decide), e 4 (by decide) (by decide), e 5 (by decide) (by decide), e 6 (by decide) (by decide), e 7 (by decide) (by decide), e 8 (by decide) (by decide), e 9 (by decide) (by decide), e 10 (by decide) (by decide), e 11 (by decide) (by decide), e 12 (by decide) (by decide), e 13 (by decide) (by decide), e 14 (by decide) (by decide), e 15 (by decide) (by decide)]
    exact hC
  · unfold CS at h35 ⊢
    rw [e 35 (by decide) (by decide), e (35 + 1) (by decide) (by decide), e (35 + 2) (by decide) (by decide), e (35 + 3) (by decide) (by decide)]
    exact h35
  · unfold LD at h39 ⊢
    rw [e (39 + 1) (by decide) (by decide), e (39 + 2) (by decide) (by decide)]
    exact h39
  · unfold LD at h42 ⊢
    rw [e (42 + 1) (by decide) (by decide), e (42 + 2) (by decide) (by decide)]
    exact h42
theorem CQ.up0 (h : CQ M A S) (x : Int) : CQ (aup M 0 14 x) A S := h.of2 fun n hn _ => aup_nc (by omega)
theorem qC_of {M2 : aM} {tr : Int} (h : sC (aup M 0 14 tr) M2) : qC M M2 tr := ⟨by rw [h 0 (by omega)]; exact aup_at, fun k hk => by rw [h 0 (by omega)]; exact aup_ne2 hk, fun n hn h2 => by rw [h n h2]; exact aup_nc hn⟩
/-- how likely some ways stay wet -/
def prt (A : aA) (w s : Nat) : Nat → Nat
  | 0 => 1
  | k + 1 => if w.testBit k then prt A w s k * (if s.testBit k then 100 - A 1 2 else A 1 2) else prt A w s k
def whl (w : Nat) : Nat → Nat
  | 0 => 1
  | k + 1 => if w.testBit k then whl w k * 100 else whl w k
theorem whl_eq (w : Nat) : ∀ k, whl w k = 100 ^ cntp w.testBit k
  | 0 => rfl
  | k + 1 => by
    have ih := whl_eq w k
    have e : cntp w.testBit (k + 1) = cntp w.testBit k + (if w.testBit k then 1 else 0) := rfl
    rw [e]
    unfold whl
    by_cases h : w.testBit k = true
    · rw [if_pos h, if_pos h, ih, Nat.pow_succ]
    · rw [if_neg h, if_neg h, ih]; rfl
theorem prt_le (hA : WF A) (w s : Nat) : ∀ k, prt A w s k ≤ whl w k
  | 0 => Nat.le_refl _
  | k + 1 => by
    have ih := prt_le hA w s k
    have hd := hA.2.1.2.2.1
    unfold prt whl
    split
    · apply Nat.mul_le_mul ih
      split <;> omega
    · exact ih
theorem cnt10 {s : Nat} (hs : s < 1024) {n : Nat} (h : s < 2 ^ n) {m : Nat} (hm : n ≤ m) : cntp s.testBit m = cntp s.testBit n := by
  have h1 := cntp_add s.testBit n (m - n)
  rw [show n + (m - n) = m by omega] at h1
  have : cntp (fun i => s.testBit (n + i)) (m - n) = 0 := by
    generalize m - n = q
    induction q with
    | zero => rfl
    | succ q ih =>
      show cntp _ q + (if s.testBit (n + q) = true then 1 else 0) = 0
      rw [ih, Nat.testBit_lt_two_pow (Nat.lt_of_lt_of_le h (Nat.pow_le_pow_right (n := 2) (by decide) (by omega)))]; rfl
  omega
/-- the state's water: few ways -/
theorem WS.pop (hA : WF A) (h : WS A S) : cntp (sW S).testBit 16 ≤ 6 ∧ cntp (sW S).testBit (A 0 2) = cntp (sW S).testBit 16 := by
  obtain ⟨s1, s2, s3⟩ := WS.s10 hA h
  have h10 := hA.1.2.2.1
  have h6 : cntp (sW S).testBit 10 ≤ 6 := h.2.2.1.2.2
  have e1 := cnt10 s1 (n := 10) s1 (m := 16) (by decide)
  have e2 := cnt10 s1 s2 (m := 16) (by omega)
  exact ⟨by omega, by omega⟩
theorem whl_le {w k : Nat} (h : cntp w.testBit k ≤ 6) : whl w k ≤ 1000000000000 := by
  rw [whl_eq]
  exact Nat.pow_le_pow_right (n := 100) (j := 6) (by decide) h
theorem cntp_mono (p : Nat → Bool) {a b : Nat} (h : a ≤ b) : cntp p a ≤ cntp p b := by
  have := cntp_add p a (b - a)
  rw [show a + (b - a) = b by omega] at this
  omega
abbrev pr (A : aA) (S : Nat → Int) (s : Nat) : Nat := prt A (sW S) s (A 0 2)
abbrev wh (A : aA) (S : Nat → Int) : Nat := whl (sW S) (A 0 2)
theorem h_chanceOf (h : CQ M A S) {s d : Nat} (hd : d < 1024) (hb : ∀ k, (sW S).testBit k = true → d.testBit k = !s.testBit k) : f_X0_chanceOf T (d : Int) M = some (pr A S s : Int) := by
  have hA := h.1
  have h10 := hA.1.2.2.1
  have hdr := hA.2.1.2.2.1
  obtain ⟨s1, s2, s3⟩ := WS.s10 hA h.2.1
  have hpop := WS.pop hA h.2.1
  have e35 : M 35 3 = ((sW S : Nat) : Int) := h.2.2.2.1.2.2.1.trans s3
  have bnd : ∀ k, k ≤ A 0 2 → prt A (sW S) s k ≤ 1000000000000 := fun k hk => Nat.le_trans (prt_le hA _ _ k) (whl_le (by have := cntp_mono (sW S).testBit hk; omega))
  unfold f_X0_chanceOf
  refine for_until (fun i n => l_X0_chanceOf_5 T (d : Int) M (fun w14 w15 => some w14) n ((prt A (sW S) s i : Nat) : Int) (i : Int)) (A 0 2) (fun i n hi => ?_) (fun n => ?_) (by omega)
  · have b1 := bnd i (by omega)
    have b2 := bnd (i + 1) (by omega)
    have e : prt A (sW S) s (i + 1) = if (sW S).testBit i then prt A (sW S) s i * (if s.testBit i then 100 - A 1 2 else A 1 2) else prt A (sW S) s i := rfl
    show l_X0_chanceOf_5 T (d : Int) M _ (n + 1) _ (i : Int) = l_X0_chanceOf_5 T (d : Int) M _ n ((prt A (sW S) s (i + 1) : Nat) : Int) ((i + 1 : Nat) : Int)
    rw [l_X0_chanceOf_5, h.2.2.1.1 2 (by decide), e35, h.2.2.1.2.1.2.2.1]
    refine c_neg (by omega) (c_bind (h_hasBit (by omega) (by omega)) ?_)
    cases hw : (sW S).testBit i
    · rw [hw, if_neg (by decide)] at e
      rw [e]
      exact c_pos rfl (c_ite (by omega) rfl)
    · refine c_neg (by decide) (c_bind (h_hasBit (by omega) (by omega)) ?_)
      rw [hb i hw]
      rw [hw, if_pos rfl] at e
      cases hs : s.testBit i
      · rw [hs, if_neg (by decide)] at e
        rw [show ((prt A (sW S) s i : Nat) : Int) * ((A 1 2 : Nat) : Int) = ((prt A (sW S) s (i + 1) : Nat) : Int) by rw [e, Int.natCast_mul]]
        exact c_neg (by decide) (c_ite (by omega) (c_ite (by omega) rfl))
      · rw [hs, if_pos rfl] at e
        rw [show ((prt A (sW S) s i : Nat) : Int) * (100 - ((A 1 2 : Nat) : Int)) = ((prt A (sW S) s (i + 1) : Nat) : Int) by rw [e, Int.natCast_mul, show ((100 - A 1 2 : Nat) : Int) = 100 - (A 1 2 : Int) by omega]]
        exact c_pos rfl (c_ite (by omega) (c_ite (by omega) (c_ite (by omega) rfl)))
  · show l_X0_chanceOf_5 T (d : Int) M _ (n + 1) _ ((A 0 2 : Nat) : Int) = _
    rw [l_X0_chanceOf_5, h.2.2.1.1 2 (by decide)]
    exact c_pos (Int.le_refl _) rfl
theorem h_all (h : CQ M A S) : f_X0_allChances T M = some (wh A S : Int) := by
  have hA := h.1
  obtain ⟨s1, s2, s3⟩ := WS.s10 hA h.2.1
  have hpop := WS.pop hA h.2.1
  have e35 : M 35 3 = ((sW S : Nat) : Int) := h.2.2.2.1.2.2.1.trans s3
  have ew : wh A S = 100 ^ cntp (sW S).testBit 16 := by show whl (sW S) (A 0 2) = _; rw [whl_eq, hpop.2]
  rw [ew]
  unfold f_X0_allChances
  refine for_until (fun i n => l_X0_allChances_4 T M (fun w6 w7 => some w6) n ((100 ^ i : Nat) : Int) (i : Int)) (cntp (sW S).testBit 16) (fun i n hi => ?_) (fun n => ?_) (by omega)
  · have b : 100 ^ (i + 1) ≤ 100 ^ 6 := Nat.pow_le_pow_right (by decide) (by omega)
    have b6 : (100 : Nat) ^ 6 = 1000000000000 := by decide
    have e : ((100 ^ i : Nat) : Int) * 100 = ((100 ^ (i + 1) : Nat) : Int) := by rw [Nat.pow_succ, Int.natCast_mul]; rfl
    show l_X0_allChances_4 T M _ (n + 1) ((100 ^ i : Nat) : Int) (i : Int) = l_X0_allChances_4 T M _ n ((100 ^ (i + 1) : Nat) : Int) ((i + 1 : Nat) : Int)
    rw [l_X0_allChances_4, e35, e]
    generalize (100 : Nat) ^ (i + 1) = q at b
    exact c_bind (h_bitCount (by omega)) (c_neg (by omega) (c_ite (by omega) (c_ite (by omega) rfl)))
  · show l_X0_allChances_4 T M _ (n + 1) _ ((cntp (sW S).testBit 16 : Nat) : Int) = _
    rw [l_X0_allChances_4, e35]
    exact c_bind (h_bitCount (by omega)) (c_pos (Int.le_refl _) rfl)
theorem ndf_sub {w s : Nat} (hs : s &&& w = s) : w - s = ndf w s ∧ s ≤ w := by
  have h1 : ndf w s &&& s = 0 := by
    apply Nat.eq_of_testBit_eq
    intro i
    rw [Nat.testBit_and, ndf_bit, Nat.zero_testBit]
    cases w.testBit i <;> cases s.testBit i <;> rfl
  have h2 := add_or _ _ _ (Nat.le_refl _) h1
  have h3 : ndf w s ||| s = w := by
    apply Nat.eq_of_testBit_eq
    intro i
    have hb : (s &&& w).testBit i = s.testBit i := by rw [hs]
    rw [Nat.testBit_and] at hb
    rw [Nat.testBit_or, ndf_bit]
    revert hb
    cases w.testBit i <;> cases s.testBit i <;> intro hb <;> first | rfl | cases hb
  omega
theorem ndf_ndf {w s : Nat} (hs : s &&& w = s) : ndf w (ndf w s) = s := by
  apply Nat.eq_of_testBit_eq
  intro i
  have hb : (s &&& w).testBit i = s.testBit i := by rw [hs]
  rw [Nat.testBit_and] at hb
  rw [ndf_bit, ndf_bit]
  revert hb
  cases w.testBit i <;> cases s.testBit i <;> intro hb <;> first | rfl | cases hb
/-- the class's dried ways -/
def drd (w i : Nat) : Nat := if i < 2 ^ cntp w.testBit 16 then w - sq w i else 0
theorem drd_ok {w i : Nat} (hi : i < 2 ^ cntp w.testBit 16) : drd w i = ndf w (sq w i) := by
  unfold drd; rw [if_pos hi]; exact (ndf_sub (sq_sub w i)).1
theorem h_next (h : CQ M A S) {i : Nat} (hi : i < 2 ^ cntp (sW S).testBit 16) : f_X0_nextDried T ((drd (sW S) i : Nat) : Int) M = some ((drd (sW S) (i + 1) : Nat) : Int) := by
  have hA := h.1
  obtain ⟨s1, s2, s3⟩ := WS.s10 hA h.2.1
  have e35 : M 35 3 = ((sW S : Nat) : Int) := h.2.2.2.1.2.2.1.trans s3
  have hsub := ndf_sub (sq_sub (sW S) i)
  have ed : drd (sW S) i = sW S - sq (sW S) i := if_pos hi
  obtain ⟨z1, z2⟩ := sq_end 16 (sW S) (Nat.lt_trans s1 (by decide))
  unfold f_X0_nextDried
  rw [e35, ed]
  refine c_ite (by omega) ?_
  by_cases hl : i + 1 < 2 ^ cntp (sW S).testBit 16
  · rw [nextD (by omega) (sq_sub _ _) (z1 i hl), show drd (sW S) (i + 1) = sW S - sq (sW S) (i + 1) from if_pos hl]; rfl
  · have hz : sq (sW S) i = 0 := by rw [show i = 2 ^ cntp (sW S).testBit 16 - 1 by omega]; exact z2
    rw [show drd (sW S) (i + 1) = 0 from if_neg hl, hz, Nat.sub_zero, Int.sub_self]
    have := aand_nat (a := 0) (b := sW S) (by decide) (by omega)
    rw [Nat.zero_and] at this
    exact congrArg _ this
/-- one row of the trial land, by chance -/
theorem h_trial (h : CQ M A S) {i c : Nat} (hi : i < 2 ^ cntp (sW S).testBit 16) (hc : c < A 0 1) : ∃ M2, f_X5_layFrom T 45 (aand (M 35 3) (axor ((drd (sW S) i : Nat) : Int) (-1))) (c : Int) M = some (0, M2) ∧ sC M M2 ∧ ∀ t, t < 8 → M2 (45 + 2) (8 * c + t) = (cl (dst A (dry (sq (sW S) i)) c t) : Int) := by
  have hA := h.1
  obtain ⟨s1, s2, s3⟩ := WS.s10 hA h.2.1
  have e35 : M 35 3 = ((sW S : Nat) : Int) := h.2.2.2.1.2.2.1.trans s3
  have hle := (ndf_sub (sq_sub (sW S) i)).2
  rw [e35, aandn (by omega), drd_ok hi, ndf_ndf (sq_sub _ _)]
  exact ⟨_, h_layFrom hA (Or.inr (Or.inr rfl)) h.2.2.1.tw (by omega) hc, sC_row, fun t ht => LD_row hA hc ht⟩
theorem drd_bit {w i k : Nat} (hi : i < 2 ^ cntp w.testBit 16) (hk : w.testBit k = true) : (drd w i).testBit k = !(sq w i).testBit k := by
  rw [drd_ok hi, ndf_bit, hk, Bool.true_and]
theorem sdn_le {f : Nat → Nat} {w B : Nat} (hf : ∀ s, f s ≤ B) : ∀ i, sdn f w i ≤ i * B
  | 0 => by show 0 ≤ _; omega
  | i + 1 => by
    have ih := sdn_le (w := w) hf i
    have := hf (sq w i)
    show sdn f w i + f (sq w i) ≤ _
    rw [Nat.add_mul]; omega
theorem pr_le (hA : WF A) (hS : WS A S) (s : Nat) : pr A S s ≤ 1000000000000 := Nat.le_trans (prt_le hA _ _ _) (whl_le (by have := WS.pop hA hS; omega))
def fwi (A : aA) (S : Nat → Int) (c t much s : Nat) : Nat := if dst A (dry s) c t ≤ much then pr A S s else 0
theorem h_chanceWithin (h : CQ M A S) {c t much : Nat} (hc : c < A 0 1) (ht : t < A 0 1) (hm : much ≤ 200) : ∃ M2, f_X0_chanceWithin T (c : Int) (t : Int) (much : Int) M = some (((sdn (fwi A S c t much) (sW S) (2 ^ cntp (sW S).testBit 16) : Nat) : Int), M2) ∧ sC M M2 := by
  have hA := h.1
  have h8 := hA.1.2.1
  obtain ⟨s1, s2, s3⟩ := WS.s10 hA h.2.1
  have hpop := WS.pop hA h.2.1
  have hK : 2 ^ cntp (sW S).testBit 16 ≤ 64 := Nat.pow_le_pow_right (n := 2) (j := 6) (by decide) hpop.1
  have hf : ∀ s, fwi A S c t much s ≤ 1000000000000 := fun s => by
    unfold fwi; split
    · exact pr_le hA h.2.1 s
    · omega
  have e35 : ∀ Z, sC M Z → Z 35 3 = ((sW S : Nat) : Int) := fun Z hZ => by rw [hZ 35 (by omega)]; exact h.2.2.2.1.2.2.1.trans s3
  unfold f_X0_chanceWithin
  obtain ⟨Z, hZ, n, hrun⟩ := for_inv (fun n i (Z : aM) => l_X0_chanceWithin_9 T (c : Int) (t : Int) (much : Int) (fun w20 w21 w22 m23 => some (w20, m23)) n ((sdn (fwi A S c t much) (sW S) i : Nat) : Int) ((drd (sW S) i : Nat) : Int) (i : Int) Z) (fun _ Z => sC M Z) (2 ^ cntp (sW S).testBit 16) (fun i n Z hi hZ => by
    have hq := h.of hZ
    obtain ⟨Y, y1, y2, y3⟩ := h_trial (T := T) hq hi hc
    have hqY := hq.of y2
    have hd1024 : drd (sW S) i < 1024 := by have := ndf_sub (sq_sub (sW S) i); have ed : drd (sW S) i = sW S - sq (sW S) i := if_pos hi; omega
    have hb1 := sdn_le (w := sW S) hf (i + 1)
    have es : sdn (fwi A S c t much) (sW S) (i + 1) = sdn (fwi A S c t much) (sW S) i + fwi A S c t much (sq (sW S) i) := rfl
    refine ⟨Y, hZ.trans y2, ?_⟩
    show l_X0_chanceWithin_9 T (c : Int) (t : Int) (much : Int) _ (n + 1) ((sdn (fwi A S c t much) (sW S) i : Nat) : Int) ((drd (sW S) i : Nat) : Int) (i : Int) Z = l_X0_chanceWithin_9 T (c : Int) (t : Int) (much : Int) _ n ((sdn (fwi A S c t much) (sW S) (i + 1) : Nat) : Int) ((drd (sW S) (i + 1) : Nat) : Int) ((i + 1 : Nat) : Int) Y
    rw [l_X0_chanceWithin_9]
    refine c_bind (by rw [e35 Z hZ]; exact h_bitCount (by omega)) ?_
    rw [ashl_one _ (by omega)]
    refine c_neg (by omega) (c_bind y1 (c_bind (h_span2 (by omega) (by omega) (y3 t (by omega))) ?_))
    by_cases hle : dst A (dry (sq (sW S) i)) c t ≤ much
    · have ef : fwi A S c t much (sq (sW S) i) = pr A S (sq (sW S) i) := if_pos hle
      have hpl := pr_le hA h.2.1 (sq (sW S) i)
      refine c_neg (fun hx => absurd ((cl_lt (by omega)).mp hx) (by omega)) (c_bind (h_chanceOf hqY hd1024 (fun k hk => drd_bit hi hk)) (c_ite (by omega) (c_bind (h_next hqY hi) (c_ite (by omega) ?_))))
      rw [es, ef, Int.natCast_add]; rfl
    · have ef : fwi A S c t much (sq (sW S) i) = 0 := if_neg hle
      refine c_pos ((cl_lt (by omega)).mpr (by omega)) (c_bind (h_next hqY hi) (c_ite (by omega) ?_))
      rw [es, ef, Nat.add_zero]; rfl) (by omega) M (sC.refl M)
  refine ⟨Z, ?_, hZ⟩
  have ed0 : drd (sW S) 0 = 0 := by
    have hp : 0 < 2 ^ cntp (sW S).testBit 16 := Nat.two_pow_pos _
    unfold drd; rw [if_pos hp]; exact Nat.sub_self _
  have hrun2 : l_X0_chanceWithin_9 T (c : Int) (t : Int) (much : Int) (fun w20 w21 w22 m23 => some (w20, m23)) FU 0 ((drd (sW S) 0 : Nat) : Int) 0 M = l_X0_chanceWithin_9 T (c : Int) (t : Int) (much : Int) (fun w20 w21 w22 m23 => some (w20, m23)) (n + 1) ((sdn (fwi A S c t much) (sW S) (2 ^ cntp (sW S).testBit 16) : Nat) : Int) ((drd (sW S) (2 ^ cntp (sW S).testBit 16) : Nat) : Int) ((2 ^ cntp (sW S).testBit 16 : Nat) : Int) Z := hrun
  rw [ed0] at hrun2
  refine Eq.trans hrun2 ?_
  rw [l_X0_chanceWithin_9]
  refine c_bind (by rw [e35 Z hZ]; exact h_bitCount (by omega)) ?_
  rw [ashl_one _ (by omega)]
  exact c_pos (Int.le_refl _) rfl
def sp_within (A : aA) (S : Nat → Int) (c t much lo : Int) : Int × Int := if inr c (A 0 1) ∧ inr t (A 0 1) then (if 0 ≤ much ∧ much ≤ 200 then (frc (sbs (fwi A S c.toNat t.toNat much.toNat) (sW S) (sW S + 1)) (wh A S) (!decide (lo = 0)), 0) else (-1, 2)) else (-1, 1)
theorem wh_lt (hA : WF A) (hS : WS A S) : wh A S < 2 ^ 44 := Nat.lt_of_le_of_lt (whl_le (by have := WS.pop hA hS; omega)) (by decide)
theorem sbs_lt (hA : WF A) (hS : WS A S) {f : Nat → Nat} (hf : ∀ s, f s ≤ 8000000000000) : sdn f (sW S) (2 ^ cntp (sW S).testBit 16) = sbs f (sW S) (sW S + 1) ∧ sbs f (sW S) (sW S + 1) < 2 ^ 50 := by
  obtain ⟨s1, s2, s3⟩ := WS.s10 hA hS
  have hpop := WS.pop hA hS
  have hK : 2 ^ cntp (sW S).testBit 16 ≤ 64 := Nat.pow_le_pow_right (n := 2) (j := 6) (by decide) hpop.1
  have e := sdn_all (f := f) (w := sW S) (n := 16) (Nat.lt_trans s1 (by decide))
  have b := sdn_le (w := sW S) hf (2 ^ cntp (sW S).testBit 16)
  have b2 : 2 ^ cntp (sW S).testBit 16 * 8000000000000 ≤ 64 * 8000000000000 := Nat.mul_le_mul_right _ hK
  refine ⟨e, ?_⟩
  rw [← e]
  exact Nat.lt_of_le_of_lt (Nat.le_trans b b2) (by decide)
theorem c_within (h : CQ M A S) (c t much lo : Int) : opC (f_X11_within T c t much lo M) M (sp_within A S c t much lo) := by
  have hA := h.1
  unfold f_X11_within sp_within
  refine oC_isCave h.2.2.1 (fun hn => ?_) (fun c' hc hlt => ?_)
  · rw [if_neg (show ¬ (inr c (A 0 1) ∧ inr t (A 0 1)) from fun h => hn h.1)]; exact oC_ref
  · refine oC_isCave h.2.2.1 (fun hn => ?_) (fun t' ht hlt2 => ?_)
    · rw [if_neg (show ¬ (inr c (A 0 1) ∧ inr t (A 0 1)) from fun h => hn h.2)]; exact oC_ref
    · subst hc ht
      rw [if_pos (show inr ((c' : Nat) : Int) (A 0 1) ∧ inr ((t' : Nat) : Int) (A 0 1) from ⟨inr_of hlt, inr_of hlt2⟩)]
      by_cases hm0 : much < 0
      · rw [if_neg (show ¬ (0 ≤ much ∧ much ≤ 200) by omega)]; exact oC_pos hm0 oC_ref
      · refine oC_neg hm0 ?_
        by_cases hm2 : much ≤ 200
        · rw [if_pos (show 0 ≤ much ∧ much ≤ 200 by omega)]
          refine oC_pos hm2 (oC_bind rfl ?_)
          obtain ⟨q, rfl⟩ : ∃ q : Nat, much = (q : Int) := ⟨much.toNat, by omega⟩
          rw [Int.toNat_natCast, Int.toNat_natCast, Int.toNat_natCast]
          have h0 := h.up0 0
          obtain ⟨M2, e1, e2⟩ := h_chanceWithin (T := T) h0 hlt hlt2 (show q ≤ 200 by omega)
          obtain ⟨b1, b2⟩ := sbs_lt hA h.2.1 (f := fwi A S c' t' q) (fun s => by unfold fwi; split; exact Nat.le_trans (pr_le hA h.2.1 s) (by decide); exact Nat.zero_le _)
          rw [b1] at e1
          refine oC_bind e1 (oC_bind (h_all (h0.of e2)) (oC_bind (h_lowest b2 (wh_lt hA h.2.1)) ?_))
          exact ⟨M2, rfl, qC_of e2⟩
        · rw [if_neg (show ¬ (0 ≤ much ∧ much ≤ 200) by omega)]; exact oC_neg hm2 oC_ref
theorem g_partOf (hA : WF A) (hS : WS A S) (hm : MV T M w A) (h140 : M 140 10 = S 10) {s : Nat} (hs : s < 2147483648) : f_X13_partOf T (s : Int) M = some ((pr A S s : Int), aup M 138 36 (wh A S : Int)) := by
  have h10 := hA.1.2.2.1
  have hdr := hA.2.1.2.2.1
  obtain ⟨s1, s2, s3⟩ := WS.s10 hA hS
  have hpop := WS.pop hA hS
  have hup : ∀ y : Int, MV T (aup M 138 36 y) w A := fun y => mv_aup hm ⟨by decide, fun _ => by decide⟩
  have e140 : ∀ y : Int, aup M 138 36 y 140 10 = ((sW S : Nat) : Int) := fun y => by rw [aup_nc (by decide), h140]; exact s3
  have wb : ∀ k, k ≤ A 0 2 → whl (sW S) k ≤ 1000000000000 := fun k hk => whl_le (by have := cntp_mono (sW S).testBit hk; omega)
  have pb : ∀ k, k ≤ A 0 2 → prt A (sW S) s k ≤ 1000000000000 := fun k hk => Nat.le_trans (prt_le hA _ _ k) (wb k hk)
  unfold f_X13_partOf
  refine c_some ?_
  refine for_until (fun i n => l_X13_partOf_10 T (s : Int) (fun w23 w24 m25 => some (w23, m25)) n ((prt A (sW S) s i : Nat) : Int) (i : Int) (aup M 138 36 ((whl (sW S) i : Nat) : Int))) (A 0 2) (fun i n hi => ?_) (fun n => ?_) (by omega)
  · obtain ⟨m1, m2, m3⟩ := hup ((whl (sW S) i : Nat) : Int)
    have b1 := pb (i + 1) (by omega)
    have b2 := wb (i + 1) (by omega)
    have e : prt A (sW S) s (i + 1) = if (sW S).testBit i then prt A (sW S) s i * (if s.testBit i then 100 - A 1 2 else A 1 2) else prt A (sW S) s i := rfl
    have ew : whl (sW S) (i + 1) = if (sW S).testBit i then whl (sW S) i * 100 else whl (sW S) i := rfl
    show l_X13_partOf_10 T (s : Int) _ (n + 1) _ (i : Int) (aup M 138 36 ((whl (sW S) i : Nat) : Int)) = l_X13_partOf_10 T (s : Int) _ n ((prt A (sW S) s (i + 1) : Nat) : Int) ((i + 1 : Nat) : Int) (aup M 138 36 ((whl (sW S) (i + 1) : Nat) : Int))
    rw [l_X13_partOf_10, m1, Int.toNat_natCast, m3.1.2.2.2.2.2.1, e140, m3.1.2.2.1, aup_at, aup_aup]
    refine c_ite m2 (c_neg (by omega) (c_bind (h_bit (by omega) (by omega)) ?_))
    cases hw : (sW S).testBit i
    · rw [hw, if_neg (by decide)] at e ew
      rw [e, ew]
      exact c_pos rfl (c_ite (by omega) rfl)
    · rw [hw, if_pos rfl] at e ew
      have ew2 : ((whl (sW S) i : Nat) : Int) * 100 = ((whl (sW S) (i + 1) : Nat) : Int) := by rw [ew, Int.natCast_mul]; rfl
      rw [ew2]
      refine c_neg (by decide) (c_bind (h_bit hs (by omega)) ?_)
      cases hsb : s.testBit i
      · rw [hsb, if_neg (by decide)] at e
        rw [show ((prt A (sW S) s i : Nat) : Int) * ((A 1 2 : Nat) : Int) = ((prt A (sW S) s (i + 1) : Nat) : Int) by rw [e, Int.natCast_mul]]
        exact c_pos rfl (c_ite (by omega) (c_ite (by omega) (c_some (c_ite (by omega) rfl))))
      · rw [hsb, if_pos rfl] at e
        rw [show ((prt A (sW S) s i : Nat) : Int) * (100 - ((A 1 2 : Nat) : Int)) = ((prt A (sW S) s (i + 1) : Nat) : Int) by rw [e, Int.natCast_mul, show ((100 - A 1 2 : Nat) : Int) = 100 - (A 1 2 : Int) by omega]]
        exact c_neg (by decide) (c_ite (by omega) (c_ite (by omega) (c_ite (by omega) (c_some (c_ite (by omega) rfl)))))
  · obtain ⟨m1, m2, m3⟩ := hup ((whl (sW S) (A 0 2) : Nat) : Int)
    show l_X13_partOf_10 T (s : Int) _ (n + 1) _ ((A 0 2 : Nat) : Int) _ = _
    rw [l_X13_partOf_10, m1, Int.toNat_natCast, m3.1.2.2.2.2.2.1]
    exact c_ite m2 (c_pos (Int.le_refl _) rfl)
theorem ndf_zero {n w : Nat} : ndf n w = 0 ↔ n &&& w = n := by
  constructor
  · intro h
    apply Nat.eq_of_testBit_eq
    intro i
    have hb : (ndf n w).testBit i = false := by rw [h, Nat.zero_testBit]
    rw [ndf_bit] at hb
    rw [Nat.testBit_and]
    revert hb
    cases n.testBit i <;> cases w.testBit i <;> intro hb <;> first | rfl | cases hb
  · intro h
    apply Nat.eq_of_testBit_eq
    intro i
    have hb : (n &&& w).testBit i = n.testBit i := by rw [h]
    rw [Nat.testBit_and] at hb
    rw [ndf_bit, Nat.zero_testBit]
    revert hb
    cases n.testBit i <;> cases w.testBit i <;> intro hb <;> first | rfl | cases hb
theorem sbs_mono {f : Nat → Nat} {w a : Nat} : ∀ b, a ≤ b → sbs f w a ≤ sbs f w b
  | 0, h => by rw [show a = 0 by omega]; exact Nat.le_refl _
  | b + 1, h => by
    by_cases hab : a = b + 1
    · rw [hab]; exact Nat.le_refl _
    · have := sbs_mono (f := f) (w := w) (a := a) b (by omega)
      show _ ≤ sbs f w b + _
      omega
/-- what the model's loop over the subsets keeps -/
def SR (T : Nat) (M : aM) (w : Nat) (A : aA) (S : Nat → Int) (j : Nat) (Z : aM) : Prop := sM M Z ∧ MV T Z w A ∧ (0 < j → Z 138 36 = ((wh A S : Nat) : Int))
theorem g_sub (h : MD T M A S) {Z : aM} {j : Nat} (hZ : SR T M w A S j Z) (hs : j < 2147483648) : f_X13_partOf T (j : Int) Z = some ((pr A S j : Int), aup Z 138 36 (wh A S : Int)) ∧ ∃ Y, f_X13_lays T (j : Int) (-1) (aup Z 138 36 (wh A S : Int)) = some (0, Y) ∧ SR T M w A S (j + 1) Y ∧ LM Y A (dry j) := by
  have hA := h.1
  have h140 : Z 140 10 = S 10 := (h.of hZ.1).2.2.2 10 (by decide)
  have hmv : MV T (aup Z 138 36 (wh A S : Int)) w A := mv_aup hZ.2.1 ⟨by decide, fun _ => by decide⟩
  have hlay := h_lays (T := T) (s := j) hA hmv hs (-1)
  rw [drw_none] at hlay
  refine ⟨g_partOf hA h.2.1 hZ.2.1 h140 hs, _, hlay, ⟨hZ.1.trans ((sM_fl (by omega)).trans sM_lays), mv_laysM hmv, fun _ => ?_⟩, laysM_LM⟩
  rw [laysM_ne (by decide), aup_at]
theorem m_within (h : MD T M A S) (c t much lo : Int) : opM (f_X13_within T c t much lo M) M (sp_within A S c t much lo) := by
  have hA := h.1
  have h8 := hA.1.2.1
  obtain ⟨s1, s2, s3⟩ := WS.s10 hA h.2.1
  unfold f_X13_within sp_within
  refine oM_bind rfl ?_
  have h1 : sM M (aup M 138 0 0) := sM_fl (by omega)
  have hm1 := h.of h1
  refine oM_isCave hm1 (fun hn => ?_) (fun c' hc hlt => ?_)
  · rw [if_neg (fun h => hn h.1)]; exact oM_ref h1
  · refine oM_isCave hm1 (fun hn => ?_) (fun t' ht hlt2 => ?_)
    · rw [if_neg (fun h => hn h.2)]; exact oM_ref h1
    · subst hc ht
      rw [if_pos ⟨inr_of hlt, inr_of hlt2⟩]
      refine oM_in (fun hn => ?_) (fun hp => ?_)
      · rw [if_neg hn]; exact oM_ref h1
      · rw [if_pos hp]
        obtain ⟨q, rfl⟩ : ∃ q : Nat, much = (q : Int) := ⟨much.toNat, by omega⟩
        rw [Int.toNat_natCast, Int.toNat_natCast, Int.toNat_natCast]
        obtain ⟨w, hw⟩ := hm1.has (by omega)
        obtain ⟨b1, b2⟩ := sbs_lt hA h.2.1 (f := fwi A S c' t' q) (fun s => by unfold fwi; split; exact Nat.le_trans (pr_le hA h.2.1 s) (by decide); exact Nat.zero_le _)
        have p50 : (2 : Nat) ^ 50 = 1125899906842624 := by decide
        obtain ⟨Z, hZ, n, hrun⟩ := for_inv (fun n j (Z : aM) => l_X13_within_52 T (c' : Int) (t' : Int) (q : Int) lo (fun w34 w35 m38 => (f_X13_fraction T w34 (m38 138 36) lo m38).bind fun x40 => some (x40.1, x40.2)) n ((sbs (fwi A S c' t' q) (sW S) j : Nat) : Int) (j : Int) Z) (SR T M w A S) (sW S + 1) (fun j n Z hj hZ => by
          have h140 : Z 140 10 = ((sW S : Nat) : Int) := ((h.of hZ.1).2.2.2 10 (by decide)).trans s3
          have es : sbs (fwi A S c' t' q) (sW S) (j + 1) = sbs (fwi A S c' t' q) (sW S) j + (if j &&& sW S = j then fwi A S c' t' q j else 0) := rfl
          have hmono := sbs_mono (f := fwi A S c' t' q) (w := sW S) (a := j + 1) (sW S + 1) (by omega)
          have eq0 : ∀ kk, l_X13_within_52 T (c' : Int) (t' : Int) (q : Int) lo kk (n + 1) ((sbs (fwi A S c' t' q) (sW S) j : Nat) : Int) (j : Int) Z = l_X13_within_52 T (c' : Int) (t' : Int) (q : Int) lo kk (n + 1) ((sbs (fwi A S c' t' q) (sW S) j : Nat) : Int) (j : Int) Z := fun _ => rfl
          by_cases hsub : j &&& sW S = j
          · obtain ⟨g1, Y, g2, g3, g4⟩ := g_sub h hZ (show j < 2147483648 by omega)
            rw [if_pos hsub] at es
            refine ⟨Y, g3, ?_⟩
            show l_X13_within_52 T (c' : Int) (t' : Int) (q : Int) lo _ (n + 1) ((sbs (fwi A S c' t' q) (sW S) j : Nat) : Int) (j : Int) Z = l_X13_within_52 T (c' : Int) (t' : Int) (q : Int) lo _ n ((sbs (fwi A S c' t' q) (sW S) (j + 1) : Nat) : Int) ((j + 1 : Nat) : Int) Y
            rw [l_X13_within_52, h140, aandn (by omega), ndf_zero.mpr hsub]
            refine c_neg (by omega) (c_pos rfl (c_bind g1 (c_bind g2 (c_bind (g_apart g4 (by omega) (by omega)) ?_))))
            by_cases hle : dst A (dry j) c' t' ≤ q
            · rw [show fwi A S c' t' q j = pr A S j from if_pos hle] at es
              refine c_neg (by omega) (c_ite (by omega) (c_ite (by omega) ?_))
              rw [es, Int.natCast_add]; rfl
            · rw [show fwi A S c' t' q j = 0 from if_neg hle, Nat.add_zero] at es
              refine c_pos (by omega) (c_ite (by omega) (c_ite (by omega) ?_))
              rw [es, Int.add_zero]; rfl
          · rw [if_neg hsub, Nat.add_zero] at es
            refine ⟨Z, ⟨hZ.1, hZ.2.1, fun _ => ?_⟩, ?_⟩
            · rcases Nat.eq_zero_or_pos j with h0 | h0
              · subst h0; exact absurd (Nat.zero_and _) hsub
              · exact hZ.2.2 h0
            · show l_X13_within_52 T (c' : Int) (t' : Int) (q : Int) lo _ (n + 1) ((sbs (fwi A S c' t' q) (sW S) j : Nat) : Int) (j : Int) Z = l_X13_within_52 T (c' : Int) (t' : Int) (q : Int) lo _ n ((sbs (fwi A S c' t' q) (sW S) (j + 1) : Nat) : Int) ((j + 1 : Nat) : Int) Z
              rw [l_X13_within_52, h140, aandn (by omega), es]
              have hnz : ¬ ((ndf j (sW S) : Nat) : Int) = 0 := fun hx => hsub (ndf_zero.mp (by omega))
              exact c_neg (by omega) (c_neg hnz (c_ite (by omega) rfl))) (by omega) (aup M 138 0 0) ⟨h1, hw, fun h => absurd h (Nat.lt_irrefl 0)⟩
        have hrun2 : l_X13_within_52 T (c' : Int) (t' : Int) (q : Int) lo (fun w34 w35 m38 => (f_X13_fraction T w34 (m38 138 36) lo m38).bind fun x40 => some (x40.1, x40.2)) FU 0 0 (aup M 138 0 0) = l_X13_within_52 T (c' : Int) (t' : Int) (q : Int) lo (fun w34 w35 m38 => (f_X13_fraction T w34 (m38 138 36) lo m38).bind fun x40 => some (x40.1, x40.2)) (n + 1) ((sbs (fwi A S c' t' q) (sW S) (sW S + 1) : Nat) : Int) ((sW S + 1 : Nat) : Int) Z := hrun
        have h140 : Z 140 10 = ((sW S : Nat) : Int) := ((h.of hZ.1).2.2.2 10 (by decide)).trans s3
        rw [hrun2, l_X13_within_52, h140, hZ.2.2 (by omega)]
        exact oM_pos (by omega) (oM_frac b2 (wh_lt hA h.2.1) hZ.1)
end Dro
