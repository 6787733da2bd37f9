/-! ===== where the first one is: fits, likeliest, judge ===== -/
section Gs
variable {A : aA} {S : Nat → Int} {T e w : Nat} {M M1 M0 : aM} {r : Int × Int}
abbrev d1 (A : aA) : Nat → Bool := dry (A 1 4)
def rgt (A : aA) (k c : Nat) : Bool := decide (dst A (d1 A) (A 8 k) c < 9999) && decide (2 * dst A (d1 A) (A 8 k) c = A 9 k)
def wgt (A : aA) (c : Nat) : Nat → Nat
  | 0 => 1
  | i + 1 => wgt A c i * (if rgt A i c then 100 - A 1 1 else A 1 1)
abbrev wg (A : aA) (c : Nat) : Nat := wgt A c (A 0 5)
theorem wgt_le (hA : WF A) (c : Nat) : ∀ i, wgt A c i ≤ 100 ^ i
  | 0 => Nat.le_refl _
  | i + 1 => by
    have ih := wgt_le hA c i
    have h := hA.2.1.2.1
    show wgt A c i * (if rgt A i c then 100 - A 1 1 else A 1 1) ≤ 100 ^ (i + 1)
    rw [Nat.pow_succ]
    apply Nat.mul_le_mul ih
    split <;> omega
theorem wgt_small (hA : WF A) (c : Nat) {i : Nat} (hi : i ≤ A 0 5) : wgt A c i ≤ 100000000 := by
  have h4 := hA.1.2.2.2.2.2.1
  exact Nat.le_trans (wgt_le hA c i) (Nat.pow_le_pow_right (n := 100) (i := i) (j := 4) (by decide) (by omega))
theorem h_isRight (hA : WF A) (hC : CT M A) (hF : LD M 42 A (d1 A)) {k c : Nat} (hk : k < A 0 5) (hc : c < A 0 1) : f_X2_isRight T (k : Int) (c : Int) M = some (bI (rgt A k c)) := by
  have h8 := hA.1.2.1
  have h4 := hA.1.2.2.2.2.2.1
  obtain ⟨w1, w2⟩ := hA.2.2.2.2.2.2.1 k hk
  obtain ⟨e1, e2⟩ := hC.2.2.2.2.2.2.1 k hk
  unfold f_X2_isRight rgt
  rw [Int.toNat_natCast, e1, e2]
  refine c_ite (by omega) (c_bind (h_span hF hA w1 (by omega)) ?_)
  have hd := dst_140 (dr := d1 A) (b := c) hA w1
  unfold cl
  by_cases hf : dst A (d1 A) (A 8 k) c < 9999
  · have := hd hf
    rw [if_pos hf, decide_eq_true hf, Bool.true_and]
    refine c_ite (by omega) ?_
    by_cases he : 2 * dst A (d1 A) (A 8 k) c = A 9 k
    · rw [if_pos (by omega), decide_eq_true he]; rfl
    · rw [if_neg (by omega), decide_eq_false he]; rfl
  · rw [if_neg hf, decide_eq_false hf, Bool.false_and]
    refine c_ite (by omega) ?_
    rw [if_neg (by omega)]; rfl
theorem h_weightOf (hA : WF A) (hC : CT M A) (hF : LD M 42 A (d1 A)) {c : Nat} (hc : c < A 0 1) : f_X2_weightOf T (c : Int) M = some (wg A c : Int) := by
  have h4 := hA.1.2.2.2.2.2.1
  have he := hA.2.1.2.1
  unfold f_X2_weightOf
  refine for_until (fun i n => l_X2_weightOf_5 T (c : Int) M (fun w10 w11 => some w10) n ((wgt A c i : Nat) : Int) (i : Int)) (A 0 5) (fun i n hi => ?_) (fun n => ?_) (by omega)
  · show l_X2_weightOf_5 T (c : Int) M _ (n + 1) _ (i : Int) = l_X2_weightOf_5 T (c : Int) M _ n ((wgt A c (i + 1) : Nat) : Int) ((i + 1 : Nat) : Int)
    have e : wgt A c (i + 1) = wgt A c i * (if rgt A i c then 100 - A 1 1 else A 1 1) := rfl
    have hs := wgt_small hA c (i := i + 1) (by omega)
    rw [l_X2_weightOf_5, hC.1 5 (by decide), hC.2.1.2.1]
    refine c_neg (by omega) (c_bind (h_isRight hA hC hF hi hc) ?_)
    cases hr : rgt A i c
    · rw [hr, if_neg (by decide)] at e
      rw [e] at hs
      have e2 : (wgt A c i : Int) * (A 1 1 : Int) = ((wgt A c (i + 1) : Nat) : Int) := by rw [e, Int.natCast_mul]
      rw [e2, e]
      exact c_pos rfl (c_ite (by omega) (c_ite (by omega) rfl))
    · rw [hr, if_pos rfl] at e
      rw [e] at hs
      have e2 : (wgt A c i : Int) * (100 - (A 1 1 : Int)) = ((wgt A c (i + 1) : Nat) : Int) := by
        rw [e, Int.natCast_mul, show ((100 - A 1 1 : Nat) : Int) = 100 - (A 1 1 : Int) by omega]
      rw [e2, e]
      exact c_neg (by decide) (c_ite (by omega) (c_ite (by omega) (c_ite (by omega) rfl)))
  · show l_X2_weightOf_5 T (c : Int) M _ (n + 1) _ ((A 0 5 : Nat) : Int) = _
    rw [l_X2_weightOf_5, hC.1 5 (by decide)]
    exact c_pos (Int.le_refl _) rfl
/-- the model, the first land laid -/
def MF (T : Nat) (M : aM) (w : Nat) (A : aA) : Prop := MV T M w A ∧ LM M A (d1 A)
theorem g_isRight (hA : WF A) (h : MF T M w A) {k c : Nat} (hk : k < A 0 5) (hc : c < A 0 1) : f_X13_isRight T (k : Int) (c : Int) M = some (bI (rgt A k c)) := by
  have h8 := hA.1.2.1
  have h4 := hA.1.2.2.2.2.2.1
  obtain ⟨⟨m1, m2, m3⟩, hL⟩ := h
  obtain ⟨w1, w2⟩ := hA.2.2.2.2.2.2.1 k hk
  obtain ⟨e1, e2⟩ := m3.2.2.2.2.1 k hk
  have hle := dst_le (dr := d1 A) hA (A 8 k) c
  unfold f_X13_isRight rgt
  rw [m1, Int.toNat_natCast, Int.toNat_natCast, e1, e2]
  refine c_ite m2 (c_ite (by omega) (c_bind (g_apart hL (by omega) (by omega)) ?_))
  by_cases hf : dst A (d1 A) (A 8 k) c < 9999
  · rw [decide_eq_true hf, Bool.true_and]
    refine c_neg (by omega) (c_ite (by omega) ?_)
    by_cases he : 2 * dst A (d1 A) (A 8 k) c = A 9 k
    · rw [if_pos (by omega), decide_eq_true he]; rfl
    · rw [if_neg (by omega), decide_eq_false he]; rfl
  · rw [decide_eq_false hf, Bool.false_and]
    exact c_pos (by omega) rfl
theorem g_weightOf (hA : WF A) (h : MF T M w A) {c : Nat} (hc : c < A 0 1) : f_X13_weightOf T (c : Int) M = some (wg A c : Int) := by
  have h4 := hA.1.2.2.2.2.2.1
  have he := hA.2.1.2.1
  have hh := h
  obtain ⟨⟨m1, m2, m3⟩, hL⟩ := h
  unfold f_X13_weightOf
  refine for_until (fun i n => l_X13_weightOf_5 T (c : Int) M (fun w11 w12 => some w11) n ((wgt A c i : Nat) : Int) (i : Int)) (A 0 5) (fun i n hi => ?_) (fun n => ?_) (by omega)
  · show l_X13_weightOf_5 T (c : Int) M _ (n + 1) _ (i : Int) = l_X13_weightOf_5 T (c : Int) M _ n ((wgt A c (i + 1) : Nat) : Int) ((i + 1 : Nat) : Int)
    have e : wgt A c (i + 1) = wgt A c i * (if rgt A i c then 100 - A 1 1 else A 1 1) := rfl
    have hs := wgt_small hA c (i := i + 1) (by omega)
    rw [l_X13_weightOf_5, m1, Int.toNat_natCast, m3.1.2.2.2.2.2.2.2.2.2.1, m3.1.2.1]
    refine c_ite m2 (c_neg (by omega) (c_bind (g_isRight hA hh hi hc) ?_))
    cases hr : rgt A i c
    · rw [hr, if_neg (by decide)] at e
      rw [e] at hs
      have e2 : (wgt A c i : Int) * (A 1 1 : Int) = ((wgt A c (i + 1) : Nat) : Int) := by rw [e, Int.natCast_mul]
      rw [e2, e]
      exact c_pos rfl (c_ite (by omega) (c_ite (by omega) rfl))
    · rw [hr, if_pos rfl] at e
      rw [e] at hs
      have e2 : (wgt A c i : Int) * (100 - (A 1 1 : Int)) = ((wgt A c (i + 1) : Nat) : Int) := by
        rw [e, Int.natCast_mul, show ((100 - A 1 1 : Nat) : Int) = 100 - (A 1 1 : Int) by omega]
      rw [e2, e]
      exact c_neg (by decide) (c_ite (by omega) (c_ite (by omega) (c_ite (by omega) rfl)))
  · show l_X13_weightOf_5 T (c : Int) M _ (n + 1) _ ((A 0 5 : Nat) : Int) = _
    rw [l_X13_weightOf_5, m1, Int.toNat_natCast, m3.1.2.2.2.2.2.2.2.2.2.1]
    exact c_ite m2 (c_pos (Int.le_refl _) rfl)
theorem alcmp_pos {x : Int} : (alcmp x 0 ≤ 0) ↔ x ≤ 0 := by
  unfold alcmp
  split
  · omega
  · split <;> omega
theorem alcmp_le {x y : Int} : (alcmp x y ≤ 0) ↔ x ≤ y := by
  unfold alcmp
  split
  · omega
  · split <;> omega
theorem alcmp_gt {x y : Int} : (0 < alcmp x y) ↔ y < x := by
  unfold alcmp
  split
  · omega
  · split <;> omega
theorem alcmp_eq {x y : Int} : (alcmp x y = 0) ↔ x = y := by
  unfold alcmp
  split
  · omega
  · split <;> omega
/-- whether there is a well -/
theorem oC_well (h : CT M A) {x y : Option (Int × aM)} (h1 : ¬ 0 < A 0 0 → opC x M0 r) (h2 : 0 < A 0 0 → opC y M0 r) : opC ((f_X11_hasWell T M).bind fun z => if z = 0 then x else y) M0 r := by
  by_cases hp : 0 < A 0 0
  · refine oC_bind (v := 1) ?_ (oC_neg (by decide) (h2 hp))
    unfold f_X11_hasWell
    rw [h.1 0 (by decide), if_neg (by omega)]
  · refine oC_bind (v := 0) ?_ (oC_pos rfl (h1 hp))
    unfold f_X11_hasWell
    rw [h.1 0 (by decide), if_pos (by omega)]
theorem oM_well (h : MD T M A S) {x y : Option (Int × aM)} (h1 : ¬ 0 < A 0 0 → opM x M0 r) (h2 : 0 < A 0 0 → opM y M0 r) : opM (if M 138 3 < 0 then x else y) M0 r := by
  rcases h.2.2.1 with ⟨h0, hn⟩ | ⟨h0, w, m1, m2, m3⟩
  · exact oM_pos (by rw [hn]; decide) (h1 (by omega))
  · exact oM_neg (by rw [m1]; omega) (h2 (by omega))
/-- the first land, laid by the model -/
theorem g_first (hA : WF A) (hm : MV T M w A) : f_X13_lays T (M w 6) (-1) M = some (0, laysM M A (d1 A)) := by
  rw [hm.2.2.1.2.2.2.2.2.2.1]
  have := h_lays hA hm hA.wet (-1)
  rw [drw_none] at this
  exact this
theorem mf_lays (hm : MV T M w A) : MF T (laysM M A (d1 A)) w A := ⟨mv_laysM hm, laysM_LM⟩
def fit (A : aA) : Nat := msk (fun c => decide (0 < wg A c)) (A 0 1)
theorem h_fitting (h : CQ M A S) : f_X2_fitting T M = some (fit A : Int) := by
  obtain ⟨hA, hS, hC, hs, hL, hF⟩ := h
  have h8 := hA.1.2.1
  unfold f_X2_fitting
  refine mask_loop (fun n b i => l_X2_fitting_4 T M (fun w7 w8 => some w7) n b i) (A 0 1) (fun c => decide (0 < wg A c)) (by omega) (fun i n hi => ?_) (fun n => ?_)
  · show l_X2_fitting_4 T M _ (n + 1) _ (i : Int) = l_X2_fitting_4 T M _ n _ _
    rw [l_X2_fitting_4, hC.1 1 (by decide)]
    refine c_neg (by omega) (c_bind (h_weightOf hA hC hF hi) ?_)
    by_cases hp : 0 < wg A i
    · refine c_neg (fun h => by have := alcmp_pos.mp h; omega) (c_ite (by omega) ?_)
      rw [if_pos (decide_eq_true hp)]
    · refine c_pos (alcmp_pos.mpr (by omega)) (c_ite (by omega) ?_)
      rw [if_neg (by rw [decide_eq_false hp]; decide)]
  · show l_X2_fitting_4 T M _ (n + 1) _ ((A 0 1 : Nat) : Int) = _
    rw [l_X2_fitting_4, hC.1 1 (by decide)]
    exact c_pos (Int.le_refl _) rfl
theorem g_fitting (hA : WF A) (hm : MV T M w A) : f_X13_fitting T M = some ((fit A : Int), laysM M A (d1 A)) := by
  have h8 := hA.1.2.1
  unfold f_X13_fitting
  rw [hm.1, Int.toNat_natCast]
  refine c_ite hm.2.1 (c_bind (g_first hA hm) ?_)
  have hf := mf_lays hm
  generalize laysM M A (d1 A) = M2 at hf
  have hh := hf
  obtain ⟨⟨m1, m2, m3⟩, hL⟩ := hf
  refine mask_loop (fun n b i => l_X13_fitting_16 T M2 (fun w13 w14 => some (w13, M2)) n b i) (A 0 1) (fun c => decide (0 < wg A c)) (by omega) (fun i n hi => ?_) (fun n => ?_)
  · show l_X13_fitting_16 T M2 _ (n + 1) _ (i : Int) = l_X13_fitting_16 T M2 _ n _ _
    rw [l_X13_fitting_16, m1, Int.toNat_natCast, m3.1.2.2.2.1]
    refine c_ite m2 (c_neg (by omega) (c_bind (g_weightOf hA hh hi) ?_))
    by_cases hp : 0 < wg A i
    · refine c_neg (fun h => by have := alcmp_pos.mp h; omega) (c_ite (by omega) ?_)
      rw [if_pos (decide_eq_true hp)]
    · refine c_pos (alcmp_pos.mpr (by omega)) (c_ite (by omega) ?_)
      rw [if_neg (by rw [decide_eq_false hp]; decide), aor_0 (msk_lt31 _ (by omega))]
  · show l_X13_fitting_16 T M2 _ (n + 1) _ ((A 0 1 : Nat) : Int) = _
    rw [l_X13_fitting_16, m1, Int.toNat_natCast, m3.1.2.2.2.1]
    exact c_ite m2 (c_pos (Int.le_refl _) rfl)
def sp_fits (A : aA) : Int × Int := gd (0 < A 0 0) (fit A : Int) 1
theorem c_fits (h : CQ M A S) : opC (f_X11_fits T M) M (sp_fits A) := by
  unfold f_X11_fits sp_fits
  refine oC_well h.2.2.1 (fun hn => ?_) (fun hp => ?_)
  · rw [gd_neg hn]; exact oC_ref
  · rw [gd_pos hp]; exact oC_bind (h_fitting h) (oC_al (sC.refl M))
theorem m_fits (h : MD T M A S) : opM (f_X13_fits T M) M (sp_fits A) := by
  unfold f_X13_fits sp_fits
  refine oM_bind rfl ?_
  have h1 : sM M (aup M 138 0 0) := sM_fl (by omega)
  have hm1 := h.of h1
  refine oM_well hm1 (fun hn => ?_) (fun hp => ?_)
  · rw [gd_neg hn]; exact oM_ref h1
  · rw [gd_pos hp]
    obtain ⟨w, hw⟩ := hm1.has (by omega)
    exact oM_bind (g_fitting h.1 hw) (oM_good (h1.trans sM_lays))
/-- the likeliest -/
def hvy (A : aA) : Nat → Int × Nat
  | 0 => (-2, 0)
  | i + 1 => if (hvy A i).2 < wg A i then ((i : Int), wg A i) else hvy A i
def sp_likeliest (A : aA) : Int × Int := gd (0 < A 0 0) (hvy A (A 0 1)).1 1
theorem c_likeliest (h : CQ M A S) : opC (f_X11_likeliest T M) M (sp_likeliest A) := by
  obtain ⟨hA, hS, hC, hs, hL, hF⟩ := h
  have h8 := hA.1.2.1
  unfold f_X11_likeliest sp_likeliest
  refine oC_well hC (fun hn => ?_) (fun hp => ?_)
  · rw [gd_neg hn]; exact oC_ref
  · rw [gd_pos hp]
    refine oC_bind (v := (hvy A (A 0 1)).1) ?_ (oC_al (sC.refl M))
    unfold f_X2_heaviest
    refine for_until (fun i n => l_X2_heaviest_8 T M (fun w7 w8 w9 => some w7) n (hvy A i).1 ((hvy A i).2 : Int) (i : Int)) (A 0 1) (fun i n hi => ?_) (fun n => ?_) (by omega)
    · show l_X2_heaviest_8 T M _ (n + 1) (hvy A i).1 ((hvy A i).2 : Int) (i : Int) = l_X2_heaviest_8 T M _ n (hvy A (i + 1)).1 ((hvy A (i + 1)).2 : Int) ((i + 1 : Nat) : Int)
      rw [l_X2_heaviest_8, hC.1 1 (by decide)]
      refine c_neg (by omega) (c_bind (h_weightOf hA hC hF hi) ?_)
      by_cases hq : (hvy A i).2 < wg A i
      · rw [show hvy A (i + 1) = ((i : Int), wg A i) from if_pos hq]
        exact c_neg (fun h => by have := alcmp_le.mp h; omega) (c_ite (by omega) rfl)
      · rw [show hvy A (i + 1) = hvy A i from if_neg hq]
        exact c_pos (alcmp_le.mpr (by omega)) (c_ite (by omega) rfl)
    · show l_X2_heaviest_8 T M _ (n + 1) _ _ ((A 0 1 : Nat) : Int) = _
      rw [l_X2_heaviest_8, hC.1 1 (by decide)]
      exact c_pos (Int.le_refl _) rfl
theorem m_likeliest (h : MD T M A S) : opM (f_X13_likeliest T M) M (sp_likeliest A) := by
  have hA := h.1
  have h8 := hA.1.2.1
  unfold f_X13_likeliest sp_likeliest
  refine oM_bind rfl ?_
  have h1 : sM M (aup M 138 0 0) := sM_fl (by omega)
  have hm1 := h.of h1
  refine oM_well hm1 (fun hn => ?_) (fun hp => ?_)
  · rw [gd_neg hn]; exact oM_ref h1
  · rw [gd_pos hp]
    obtain ⟨w, hw⟩ := hm1.has (by omega)
    rw [hw.1, Int.toNat_natCast]
    refine oM_pos hw.2.1 (oM_bind (g_first hA hw) ?_)
    have hf := mf_lays hw
    have hsm := h1.trans (sM_lays (M := aup M 138 0 0) (A := A) (dr := d1 A))
    generalize laysM (aup M 138 0 0) A (d1 A) = M2 at hf hsm
    have hh := hf
    obtain ⟨⟨m1, m2, m3⟩, hL⟩ := hf
    have key : ∀ kk : Int → Int → Int → Option (Int × aM), l_X13_likeliest_38 T M2 kk FU (-2) 0 0 = kk (hvy A (A 0 1)).1 ((hvy A (A 0 1)).2 : Int) (A 0 1 : Int) := by
      intro kk
      refine for_until (fun i n => l_X13_likeliest_38 T M2 kk n (hvy A i).1 ((hvy A i).2 : Int) (i : Int)) (A 0 1) (fun i n hi => ?_) (fun n => ?_) (by omega)
      · show l_X13_likeliest_38 T M2 kk (n + 1) (hvy A i).1 ((hvy A i).2 : Int) (i : Int) = l_X13_likeliest_38 T M2 kk n (hvy A (i + 1)).1 ((hvy A (i + 1)).2 : Int) ((i + 1 : Nat) : Int)
        rw [l_X13_likeliest_38, m1, Int.toNat_natCast, m3.1.2.2.2.1]
        refine c_ite m2 (c_neg (by omega) (c_bind (g_weightOf hA hh hi) ?_))
        by_cases hq : (hvy A i).2 < wg A i
        · rw [show hvy A (i + 1) = ((i : Int), wg A i) from if_pos hq]
          exact c_pos (alcmp_gt.mpr (by omega)) (c_bind (g_weightOf hA hh hi) (c_ite (by omega) rfl))
        · rw [show hvy A (i + 1) = hvy A i from if_neg hq]
          exact c_neg (fun h => by have := alcmp_gt.mp h; omega) (c_ite (by omega) rfl)
      · show l_X13_likeliest_38 T M2 kk (n + 1) _ _ ((A 0 1 : Nat) : Int) = _
        rw [l_X13_likeliest_38, m1, Int.toNat_natCast, m3.1.2.2.2.1]
        exact c_ite m2 (c_pos (Int.le_refl _) rfl)
    show opM (l_X13_likeliest_38 T M2 _ FU (-2) 0 0) M _
    rw [key]; exact oM_good hsm
/-- the first echo told wrongly -/
def sp_judge (A : aA) : Int × Int := gd (0 < A 0 0) (if A 0 3 = 0 then -2 else orN (fun k => !rgt A k (A 6 0)) (A 0 5)) 1
theorem c_judge (h : CQ M A S) : opC (f_X11_judge T M) M (sp_judge A) := by
  obtain ⟨hA, hS, hC, hs, hL, hF⟩ := h
  have h8 := hA.1.2.1
  have h4 := hA.1.2.2.2.2.2.1
  unfold f_X11_judge sp_judge
  refine oC_well hC (fun hn => ?_) (fun hp => ?_)
  · rw [gd_neg hn]; exact oC_ref
  · rw [gd_pos hp]
    refine oC_bind (v := if A 0 3 = 0 then -2 else orN (fun k => !rgt A k (A 6 0)) (A 0 5)) ?_ (oC_al (sC.refl M))
    unfold f_X2_firstWrongEcho
    rw [hC.1 3 (by decide)]
    by_cases h0 : A 0 3 = 0
    · rw [if_pos h0, if_pos (by omega)]
    · rw [if_neg h0]
      refine c_neg (by omega) ?_
      have hv := (hA.2.2.2.2.1 0 (by omega)).2
      have e9 := (hC.2.2.2.2.1 0 (by omega)).2
      have := find_loop (fun n i => l_X2_firstWrongEcho_17 T M (fun w7 => some (-2)) n i) (A 0 5) (fun k => !rgt A k (A 6 0)) (fun i => some (i : Int)) (y := some (-2)) (by omega) (fun i n hi hp => ?_) (fun i n hi hp => ?_) (fun n => ?_)
      · have t2 : l_X2_firstWrongEcho_17 T M (fun w7 => some (-2)) FU 0 = _ := this
        rw [t2]; unfold orN; split <;> rfl
      · show l_X2_firstWrongEcho_17 T M _ (n + 1) (i : Int) = _
        rw [l_X2_firstWrongEcho_17, hC.1 5 (by decide), e9]
        refine c_neg (by omega) (c_bind (h_isRight hA hC hF hi hv) ?_)
        rw [Bool.not_eq_false'] at hp
        rw [hp]
        exact c_neg (by decide) (c_ite (by omega) rfl)
      · show l_X2_firstWrongEcho_17 T M _ (n + 1) (i : Int) = _
        rw [l_X2_firstWrongEcho_17, hC.1 5 (by decide), e9]
        refine c_neg (by omega) (c_bind (h_isRight hA hC hF hi hv) ?_)
        rw [Bool.not_eq_true'] at hp
        rw [hp]
        exact c_pos rfl rfl
      · show l_X2_firstWrongEcho_17 T M _ (n + 1) ((A 0 5 : Nat) : Int) = _
        rw [l_X2_firstWrongEcho_17, hC.1 5 (by decide)]
        exact c_pos (Int.le_refl _) rfl
theorem m_judge (h : MD T M A S) : opM (f_X13_judge T M) M (sp_judge A) := by
  have hA := h.1
  have h8 := hA.1.2.1
  have h4 := hA.1.2.2.2.2.2.1
  unfold f_X13_judge sp_judge
  refine oM_bind rfl ?_
  have h1 : sM M (aup M 138 0 0) := sM_fl (by omega)
  have hm1 := h.of h1
  refine oM_well hm1 (fun hn => ?_) (fun hp => ?_)
  · rw [gd_neg hn]; exact oM_ref h1
  · rw [gd_pos hp]
    obtain ⟨w, hw⟩ := hm1.has (by omega)
    rw [hw.1, Int.toNat_natCast]
    refine oM_pos hw.2.1 (oM_bind (g_first hA hw) ?_)
    have hf := mf_lays hw
    have hsm := h1.trans (sM_lays (M := aup M 138 0 0) (A := A) (dr := d1 A))
    generalize laysM (aup M 138 0 0) A (d1 A) = M2 at hf hsm
    have hh := hf
    obtain ⟨⟨m1, m2, m3⟩, hL⟩ := hf
    show opM (l_X13_judge_32 T M2 _ FU 0) M _
    by_cases h0 : A 0 3 = 0
    · rw [if_pos h0]
      have : ∀ kk : Int → Option (Int × aM), l_X13_judge_32 T M2 kk FU 0 = kk 0 := by
        intro kk
        rw [show FU = 99999 + 1 from rfl, l_X13_judge_32, m1, Int.toNat_natCast, m3.1.2.2.2.2.2.2.2.2.2.1, m3.1.2.2.2.2.2.2.2.1, h0]
        refine c_ite m2 ?_
        by_cases h5 : (A 0 5 : Int) ≤ 0
        · exact c_pos h5 rfl
        · exact c_neg h5 (c_pos (by decide) rfl)
      rw [this]; exact oM_good hsm
    · rw [if_neg h0]
      have hv := (hA.2.2.2.2.1 0 (by omega)).2
      have e9 := (m3.2.2.1 0 (by omega)).2
      have key : ∀ kk : Int → Option (Int × aM), l_X13_judge_32 T M2 kk FU 0 = if fst (fun k => !rgt A k (A 6 0)) (A 0 5) < A 0 5 then (f_X13_good T ((fst (fun k => !rgt A k (A 6 0)) (A 0 5) : Nat) : Int) M2).bind (fun x16 => some (x16.1, x16.2)) else kk (A 0 5 : Int) := by
        intro kk
        refine find_loop (fun n i => l_X13_judge_32 T M2 kk n i) (A 0 5) (fun k => !rgt A k (A 6 0)) (fun i => (f_X13_good T (i : Int) M2).bind (fun x16 => some (x16.1, x16.2))) (by omega) (fun i n hi hp => ?_) (fun i n hi hp => ?_) (fun n => ?_)
        · show l_X13_judge_32 T M2 kk (n + 1) (i : Int) = _
          rw [l_X13_judge_32, m1, Int.toNat_natCast, m3.1.2.2.2.2.2.2.2.2.2.1, m3.1.2.2.2.2.2.2.2.1, e9]
          refine c_ite m2 (c_neg (by omega) (c_neg (by omega) (c_bind (g_isRight hA hh hi hv) ?_)))
          rw [Bool.not_eq_false'] at hp
          rw [hp]
          exact c_neg (by decide) (c_ite (by omega) rfl)
        · show l_X13_judge_32 T M2 kk (n + 1) (i : Int) = _
          rw [l_X13_judge_32, m1, Int.toNat_natCast, m3.1.2.2.2.2.2.2.2.2.2.1, m3.1.2.2.2.2.2.2.2.1, e9]
          refine c_ite m2 (c_neg (by omega) (c_neg (by omega) (c_bind (g_isRight hA hh hi hv) ?_)))
          rw [Bool.not_eq_true'] at hp
          rw [hp]
          exact c_pos rfl rfl
        · show l_X13_judge_32 T M2 kk (n + 1) ((A 0 5 : Nat) : Int) = _
          rw [l_X13_judge_32, m1, Int.toNat_natCast, m3.1.2.2.2.2.2.2.2.2.2.1]
          exact c_ite m2 (c_pos (Int.le_refl _) rfl)
      rw [key]
      unfold orN
      by_cases hf : fst (fun k => !rgt A k (A 6 0)) (A 0 5) < A 0 5
      · rw [if_pos hf, if_pos hf]; exact oM_good hsm
      · rw [if_neg hf, if_neg hf]; exact oM_good hsm
end Gs
