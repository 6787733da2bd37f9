/-! ===== mean ===== -/
section Men
variable {A : aA} {S : Nat → Int} {T e w : Nat} {M M1 M0 : aM}
theorem cntp_msk {p : Nat → Bool} {n m : Nat} (h : n ≤ m) : cntp (msk p n).testBit m = cntp p n := by
  have h1 := cntp_add (msk p n).testBit n (m - n)
  rw [show n + (m - n) = m by omega] at h1
  rw [h1, cntp_cong (p := (msk p n).testBit) (q := p) (fun k hk => by rw [msk_bit, decide_eq_true hk, Bool.true_and])]
  have : cntp (fun i => (msk p n).testBit (n + i)) (m - n) = 0 := by
    generalize m - n = q
    induction q with
    | zero => rfl
    | succ q ih =>
      show cntp _ q + (if (msk p n).testBit (n + q) = true then 1 else 0) = 0
      rw [ih, msk_bit, decide_eq_false (by omega), Bool.false_and]; rfl
  omega
def rcn (A : aA) (s c : Nat) : Nat := cntp (fun t => decide (dst A (dry s) c t < 9999)) (A 0 1)
theorem rcn_le (hA : WF A) (s c : Nat) : rcn A s c ≤ 8 := Nat.le_trans (cntp_le _ _) hA.1.2.1
theorem h_reachedFrom (hA : WF A) (hC : CT M A) {s c : Nat} (hc : c < A 0 1) (hr : ∀ t, t < 8 → M (45 + 2) (8 * c + t) = (cl (dst A (dry s) c t) : Int)) : f_X5_reachedFrom T 45 (c : Int) M = some (rcn A s c : Int) := by
  have h8 := hA.1.2.1
  unfold f_X5_reachedFrom
  refine cnt_loop (fun n b i => l_X5_reachedFrom_4 T 45 (c : Int) M (fun w8 w9 => some w8) n b i) (A 0 1) (fun t => decide (dst A (dry s) c t < 9999)) (by omega) (fun i n hi => ?_) (fun n => ?_)
  · have hcl := cntp_le (fun t => decide (dst A (dry s) c t < 9999)) i
    show l_X5_reachedFrom_4 T 45 (c : Int) M _ (n + 1) _ (i : Int) = l_X5_reachedFrom_4 T 45 (c : Int) M _ n _ _
    rw [l_X5_reachedFrom_4, hC.1 1 (by decide)]
    refine c_neg (by omega) (c_bind (h_span2 (by omega) (by omega) (hr i (by omega))) ?_)
    by_cases hf : dst A (dry s) c i < 9999
    · rw [if_pos (show decide (dst A (dry s) c i < 9999) = true from decide_eq_true hf)]
      exact c_neg (by unfold cl; rw [if_pos hf]; omega) (c_ite (by omega) (c_ite (by omega) rfl))
    · rw [if_neg (show ¬ decide (dst A (dry s) c i < 9999) = true by rw [decide_eq_false hf]; decide)]
      exact c_pos (by unfold cl; rw [if_neg hf]; omega) (c_ite (by omega) rfl)
  · show l_X5_reachedFrom_4 T 45 (c : Int) M _ (n + 1) _ ((A 0 1 : Nat) : Int) = _
    rw [l_X5_reachedFrom_4, hC.1 1 (by decide)]
    exact c_pos (Int.le_refl _) rfl
def fme (A : aA) (S : Nat → Int) (c s : Nat) : Nat := pr A S s * rcn A s c
theorem fme_le (hA : WF A) (hS : WS A S) (c s : Nat) : fme A S c s ≤ 8000000000000 := Nat.mul_le_mul (pr_le hA hS s) (rcn_le hA s c)
theorem h_cavesBy (h : CQ M A S) {c : Nat} (hc : c < A 0 1) : ∃ M2, f_X0_cavesByChance T (c : Int) M = some (((sdn (fme A S c) (sW S) (2 ^ cntp (sW S).testBit 16) : Nat) : Int), M2) ∧ sC M M2 := by
  have hA := h.1
  have h8 := hA.1.2.1
  obtain ⟨s1, s2, s3⟩ := WS.s10 hA h.2.1
  have hpop := WS.pop hA h.2.1
  have hK : 2 ^ cntp (sW S).testBit 16 ≤ 64 := Nat.pow_le_pow_right (n := 2) (j := 6) (by decide) hpop.1
  have e35 : ∀ Z, sC M Z → Z 35 3 = ((sW S : Nat) : Int) := fun Z hZ => by rw [hZ 35 (by omega)]; exact h.2.2.2.1.2.2.1.trans s3
  unfold f_X0_cavesByChance
  obtain ⟨Z, hZ, n, hrun⟩ := for_inv (fun n i (Z : aM) => l_X0_cavesByChance_8 T (c : Int) (fun w17 w18 w19 m20 => some (w17, m20)) n ((sdn (fme A S c) (sW S) i : Nat) : Int) ((drd (sW S) i : Nat) : Int) (i : Int) Z) (fun _ Z => sC M Z) (2 ^ cntp (sW S).testBit 16) (fun i n Z hi hZ => by
    have hq := h.of hZ
    obtain ⟨Y, y1, y2, y3⟩ := h_trial (T := T) hq hi hc
    have hqY := hq.of y2
    have hd1024 : drd (sW S) i < 1024 := by have := ndf_sub (sq_sub (sW S) i); have ed : drd (sW S) i = sW S - sq (sW S) i := if_pos hi; omega
    have hb1 := sdn_le (w := sW S) (fme_le hA h.2.1 c) (i + 1)
    have es : sdn (fme A S c) (sW S) (i + 1) = sdn (fme A S c) (sW S) i + fme A S c (sq (sW S) i) := rfl
    have ef : ((pr A S (sq (sW S) i) : Nat) : Int) * ((rcn A (sq (sW S) i) c : Nat) : Int) = ((fme A S c (sq (sW S) i) : Nat) : Int) := by unfold fme; rw [Int.natCast_mul]
    refine ⟨Y, hZ.trans y2, ?_⟩
    show l_X0_cavesByChance_8 T (c : Int) _ (n + 1) ((sdn (fme A S c) (sW S) i : Nat) : Int) ((drd (sW S) i : Nat) : Int) (i : Int) Z = l_X0_cavesByChance_8 T (c : Int) _ n ((sdn (fme A S c) (sW S) (i + 1) : Nat) : Int) ((drd (sW S) (i + 1) : Nat) : Int) ((i + 1 : Nat) : Int) Y
    rw [l_X0_cavesByChance_8]
    refine c_bind (by rw [e35 Z hZ]; exact h_bitCount (by omega)) ?_
    rw [ashl_one _ (by omega)]
    refine c_neg (by omega) (c_bind y1 (c_bind (h_chanceOf hqY hd1024 (fun k hk => drd_bit hi hk)) (c_bind (h_reachedFrom hA hqY.2.2.1 hc y3) ?_)))
    rw [ef]
    refine c_ite (by omega) (c_ite (by omega) (c_bind (h_next hqY hi) (c_ite (by omega) ?_)))
    rw [es, Int.natCast_add]; rfl) (by omega) M (sC.refl M)
  refine ⟨Z, ?_, hZ⟩
  have ed0 : drd (sW S) 0 = 0 := by
    have hp : 0 < 2 ^ cntp (sW S).testBit 16 := Nat.two_pow_pos _
    unfold drd; rw [if_pos hp]; exact Nat.sub_self _
  have hrun2 : l_X0_cavesByChance_8 T (c : Int) (fun w17 w18 w19 m20 => some (w17, m20)) FU 0 ((drd (sW S) 0 : Nat) : Int) 0 M = l_X0_cavesByChance_8 T (c : Int) (fun w17 w18 w19 m20 => some (w17, m20)) (n + 1) ((sdn (fme A S c) (sW S) (2 ^ cntp (sW S).testBit 16) : Nat) : Int) ((drd (sW S) (2 ^ cntp (sW S).testBit 16) : Nat) : Int) ((2 ^ cntp (sW S).testBit 16 : Nat) : Int) Z := hrun
  rw [ed0] at hrun2
  refine Eq.trans hrun2 ?_
  rw [l_X0_cavesByChance_8]
  refine c_bind (by rw [e35 Z hZ]; exact h_bitCount (by omega)) ?_
  rw [ashl_one _ (by omega)]
  exact c_pos (Int.le_refl _) rfl
def sp_mean (A : aA) (S : Nat → Int) (c lo : Int) : Int × Int := gd (inr c (A 0 1)) (frc (sbs (fme A S c.toNat) (sW S) (sW S + 1)) (wh A S) (!decide (lo = 0))) 1
theorem c_mean (h : CQ M A S) (c lo : Int) : opC (f_X11_mean T c lo M) M (sp_mean A S c lo) := by
  have hA := h.1
  unfold f_X11_mean sp_mean
  refine oC_isCave h.2.2.1 (fun hn => ?_) (fun c' hc hlt => ?_)
  · rw [gd_neg hn]; exact oC_ref
  · subst hc
    rw [gd_pos (inr_of hlt), Int.toNat_natCast]
    refine oC_bind rfl ?_
    have h0 := h.up0 0
    obtain ⟨M2, e1, e2⟩ := h_cavesBy (T := T) h0 hlt
    obtain ⟨b1, b2⟩ := sbs_lt hA h.2.1 (f := fme A S c') (fme_le hA h.2.1 c')
    rw [b1] at e1
    refine oC_bind e1 (oC_bind (h_all (h0.of e2)) (oC_bind (h_lowest b2 (wh_lt hA h.2.1)) ?_))
    exact ⟨M2, rfl, qC_of e2⟩
theorem m_mean (h : MD T M A S) (c lo : Int) : opM (f_X13_mean T c lo M) M (sp_mean A S c lo) := by
  have hA := h.1
  have h8 := hA.1.2.1
  obtain ⟨s1, s2, s3⟩ := WS.s10 hA h.2.1
  unfold f_X13_mean sp_mean
  refine oM_bind rfl ?_
  have h1 : sM M (aup M 138 0 0) := sM_fl (by omega)
  have hm1 := h.of h1
  refine oM_isCave hm1 (fun hn => ?_) (fun c' hc hlt => ?_)
  · rw [gd_neg hn]; exact oM_ref h1
  · subst hc
    rw [gd_pos (inr_of hlt), Int.toNat_natCast]
    obtain ⟨w, hw⟩ := hm1.has (by omega)
    obtain ⟨b1, b2⟩ := sbs_lt hA h.2.1 (f := fme A S c') (fme_le hA h.2.1 c')
    have p50 : (2 : Nat) ^ 50 = 1125899906842624 := by decide
    obtain ⟨Z, hZ, n, hrun⟩ := for_inv (fun n j (Z : aM) => l_X13_mean_25 T (c' : Int) lo (fun w24 w25 m28 => (f_X13_fraction T w24 (m28 138 36) lo m28).bind fun x30 => some (x30.1, x30.2)) n ((sbs (fme A S c') (sW S) j : Nat) : Int) (j : Int) Z) (SR T M w A S) (sW S + 1) (fun j n Z hj hZ => by
      have h140 : Z 140 10 = ((sW S : Nat) : Int) := ((h.of hZ.1).2.2.2 10 (by decide)).trans s3
      have es : sbs (fme A S c') (sW S) (j + 1) = sbs (fme A S c') (sW S) j + (if j &&& sW S = j then fme A S c' j else 0) := rfl
      have hmono := sbs_mono (f := fme A S c') (w := sW S) (a := j + 1) (sW S + 1) (by omega)
      by_cases hsub : j &&& sW S = j
      · obtain ⟨g1, Y, g2, g3, g4⟩ := g_sub h hZ (show j < 2147483648 by omega)
        rw [if_pos hsub] at es
        refine ⟨Y, g3, ?_⟩
        show l_X13_mean_25 T (c' : Int) lo _ (n + 1) ((sbs (fme A S c') (sW S) j : Nat) : Int) (j : Int) Z = l_X13_mean_25 T (c' : Int) lo _ n ((sbs (fme A S c') (sW S) (j + 1) : Nat) : Int) ((j + 1 : Nat) : Int) Y
        have hrl : rchd A (dry j) c' 9998 < 65536 := Nat.lt_of_lt_of_le (msk_lt _ _) (Nat.pow_le_pow_right (n := 2) (j := 16) (by decide) (by omega))
        have hrc : cntp (rchd A (dry j) c' 9998).testBit 16 = rcn A j c' := by
          unfold rchd rcn
          rw [cntp_msk (by omega)]
          exact cntp_cong fun k _ => by rw [decide_eq_decide]; omega
        have hgr := g_reached (T := T) (much := 9998) hA g3.2.1 g4 hlt
        have hgb := g_bits (T := T) (M := Y) hrl
        rw [hrc] at hgb
        have ef : ((pr A S j : Nat) : Int) * ((rcn A j c' : Nat) : Int) = ((fme A S c' j : Nat) : Int) := by unfold fme; rw [Int.natCast_mul]
        have hfl := fme_le hA h.2.1 c' j
        rw [l_X13_mean_25, h140, aandn (by omega), ndf_zero.mpr hsub]
        refine c_neg (by omega) (c_pos rfl (c_bind g1 (c_bind g2 (c_bind hgr (c_bind hgb ?_)))))
        show (if aInL (((pr A S j : Nat) : Int) * ((rcn A j c' : Nat) : Int)) then _ else none) = _
        rw [ef]
        refine c_ite (by omega) (c_ite (by omega) (c_ite (by omega) ?_))
        rw [es, Int.natCast_add]; rfl
      · rw [if_neg hsub, Nat.add_zero] at es
        refine ⟨Z, ⟨hZ.1, hZ.2.1, fun _ => ?_⟩, ?_⟩
        · rcases Nat.eq_zero_or_pos j with h0 | h0
          · subst h0; exact absurd (Nat.zero_and _) hsub
          · exact hZ.2.2 h0
        · show l_X13_mean_25 T (c' : Int) lo _ (n + 1) ((sbs (fme A S c') (sW S) j : Nat) : Int) (j : Int) Z = l_X13_mean_25 T (c' : Int) lo _ n ((sbs (fme A S c') (sW S) (j + 1) : Nat) : Int) ((j + 1 : Nat) : Int) Z
          rw [l_X13_mean_25, h140, aandn (by omega), es]
          have hnz : ¬ ((ndf j (sW S) : Nat) : Int) = 0 := fun hx => hsub (ndf_zero.mp (by omega))
          exact c_neg (by omega) (c_neg hnz (c_ite (by omega) rfl))) (by omega) (aup M 138 0 0) ⟨h1, hw, fun h => absurd h (Nat.lt_irrefl 0)⟩
    have hrun2 : l_X13_mean_25 T (c' : Int) lo (fun w24 w25 m28 => (f_X13_fraction T w24 (m28 138 36) lo m28).bind fun x30 => some (x30.1, x30.2)) FU 0 0 (aup M 138 0 0) = l_X13_mean_25 T (c' : Int) lo (fun w24 w25 m28 => (f_X13_fraction T w24 (m28 138 36) lo m28).bind fun x30 => some (x30.1, x30.2)) (n + 1) ((sbs (fme A S c') (sW S) (sW S + 1) : Nat) : Int) ((sW S + 1 : Nat) : Int) Z := hrun
    have h140 : Z 140 10 = ((sW S : Nat) : Int) := ((h.of hZ.1).2.2.2 10 (by decide)).trans s3
    rw [hrun2, l_X13_mean_25, h140, hZ.2.2 (by omega)]
    exact oM_pos (by omega) (oM_frac b2 (wh_lt hA h.2.1) hZ.1)
end Men
