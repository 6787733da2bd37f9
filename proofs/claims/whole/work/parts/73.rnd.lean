theorem fb_holes : ∀ (m n : Nat) (f : Nat → Nat), (∀ i, i < n → f i < m) → (∀ i j, i < j → j < n → f i ≠ f j) → n ≤ m := by
  intro m
  induction m with
  | zero =>
    intro n f h1 _
    rcases Nat.eq_zero_or_pos n with h | h
    · omega
    · exact absurd (h1 0 h) (Nat.not_lt_zero _)
  | succ m ih =>
    intro n f h1 h2
    by_cases hx : ∃ i, i < n ∧ f i = m
    · obtain ⟨a, ha, hfa⟩ := hx
      have hg := ih (n - 1) (fun i => if i < a then f i else f (i + 1)) (by
        intro i hi
        by_cases q : i < a
        · simp only [if_pos q]
          have b1 := h1 i (by omega)
          have b2 := h2 i a q ha
          omega
        · simp only [if_neg q]
          have b1 := h1 (i + 1) (by omega)
          have b2 := h2 a (i + 1) (by omega) (by omega)
          omega) (by
        intro i j hij hj
        by_cases q : i < a
        · by_cases r : j < a
          · simp only [if_pos q, if_pos r]
            exact h2 i j hij (by omega)
          · simp only [if_pos q, if_neg r]
            exact h2 i (j + 1) (by omega) (by omega)
        · have r : ¬ j < a := by omega
          simp only [if_neg q, if_neg r]
          exact h2 (i + 1) (j + 1) (by omega) (by omega))
      omega
    · have hg := ih n f (fun i hi => by
        have b1 := h1 i hi
        have b2 : f i ≠ m := fun e => hx ⟨i, hi, e⟩
        omega) h2
      omega
/-- two of them in one place -/
theorem fb_twice {m n : Nat} {f : Nat → Nat} (h : ∀ i, i < n → f i < m) (hm : m < n) : ∃ i j, i < j ∧ j < n ∧ f i = f j := by
  refine Classical.byContradiction fun hx => ?_
  have := fb_holes m n f h (fun i j hij hj e => hx ⟨i, j, hij, hj, e⟩)
  omega
/-! ===== settles, round: caves that come again (the two rows above were begun with a text given for pasting) ===== -/
section Rnd
variable {A : aA} {S : Nat → Int} {T e w : Nat} {M M1 : aM}
/-- from F on, up to 144, a row comes again behind L -/
def agb (a : Nat → Nat) (F L : Nat) : Bool := decide (fst (fun i => !decide (a (F + i) = a (F + i + L))) (144 - F) = 144 - F)
theorem agb_iff {a : Nat → Nat} {F L : Nat} : agb a F L = true ↔ ∀ k, F ≤ k → k < 144 → a k = a (k + L) := by
  unfold agb
  rw [decide_eq_true_eq]
  constructor
  · intro h k h1 h2
    have := fst_no (fun i => !decide (a (F + i) = a (F + i + L))) (144 - F) (k - F) (by omega)
    rw [Bool.not_eq_false', decide_eq_true_eq, show F + (k - F) = k by omega] at this
    exact this
  · intro h
    apply fst_none
    intro i hi
    rw [Bool.not_eq_false', decide_eq_true_eq]
    exact h (F + i) (by omega) (by omega)
/-- a voice's caves -/
abbrev vc (A : aA) (S : Nat → Int) (v n : Nat) : Nat := (vt A S v n).1
/-- how many years a round takes -/
def rln (A : aA) (S : Nat → Int) (v : Nat) : Nat := 1 + fst (fun d => agb (vc A S v) 72 (d + 1)) 71
theorem vt_rep {v i j : Nat} (h : vt A S v i = vt A S v j) : ∀ n, vt A S v (i + n) = vt A S v (j + n)
  | 0 => h
  | n + 1 => by
    have ih := vt_rep h n
    show vt A S v (i + n + 1) = vt A S v (j + n + 1)
    have e : ∀ q, vt A S v (q + 1) = if ys A S (A 5 v) (vt A S v q).1 (vt A S v q).2 = (vt A S v q).1 then vt A S v q else (ys A S (A 5 v) (vt A S v q).1 (vt A S v q).2, ((vt A S v q).1 : Int)) := fun q => rfl
    rw [e, e, ih]
theorem rln_has (hA : WF A) (hS : WS A S) {v : Nat} (hv : v < A 0 3) : ∃ p, 1 ≤ p ∧ p ≤ 72 ∧ ∀ k, 72 ≤ k → vc A S v k = vc A S v (k + p) := by
  have h8 := hA.1.2.1
  have ok := fun i => vt_ok hA hS hv i
  let f : Nat → Nat := fun i => (vt A S v i).1 * 9 + (if (vt A S v i).2 = -2 then 8 else (vt A S v i).2.toNat)
  have hf : ∀ i, i < 73 → f i < 72 := by
    intro i _
    obtain ⟨h1, h2⟩ := ok i
    show (vt A S v i).1 * 9 + (if (vt A S v i).2 = -2 then 8 else (vt A S v i).2.toNat) < 72
    split <;> omega
  obtain ⟨i, j, hij, hj, he⟩ := fb_twice hf (by decide)
  have he2 : vt A S v i = vt A S v j := by
    have he' : (vt A S v i).1 * 9 + (if (vt A S v i).2 = -2 then 8 else (vt A S v i).2.toNat) = (vt A S v j).1 * 9 + (if (vt A S v j).2 = -2 then 8 else (vt A S v j).2.toNat) := he
    obtain ⟨a1, a2⟩ := ok i
    obtain ⟨b1, b2⟩ := ok j
    apply Prod.ext
    · split at he' <;> split at he' <;> omega
    · split at he' <;> split at he' <;> omega
  refine ⟨j - i, by omega, by omega, fun k hk => ?_⟩
  have := vt_rep he2 (k - i)
  rw [show i + (k - i) = k by omega, show j + (k - i) = k + (j - i) by omega] at this
  show (vt A S v k).1 = (vt A S v (k + (j - i))).1
  rw [this]
theorem rln_ok (hA : WF A) (hS : WS A S) {v : Nat} (hv : v < A 0 3) : 1 ≤ rln A S v ∧ rln A S v ≤ 72 ∧ agb (vc A S v) 72 (rln A S v) = true ∧ ∀ L, 1 ≤ L → L < rln A S v → agb (vc A S v) 72 L = false := by
  have hle := fst_le (fun d => agb (vc A S v) 72 (d + 1)) 71
  have hno := fst_no (fun d => agb (vc A S v) 72 (d + 1)) 71
  obtain ⟨p, hp1, hp2, hp⟩ := rln_has hA hS hv
  have hmin : ∀ L, 1 ≤ L → L < rln A S v → agb (vc A S v) 72 L = false := by
    intro L h1 h2
    unfold rln at h2
    have := hno (L - 1) (by omega)
    rw [show L - 1 + 1 = L by omega] at this
    exact this
  refine ⟨by unfold rln; omega, by unfold rln; omega, ?_, hmin⟩
  rcases Nat.lt_or_ge (fst (fun d => agb (vc A S v) 72 (d + 1)) 71) 71 with h | h
  · have := fst_yes (fun d => agb (vc A S v) 72 (d + 1)) 71 h
    unfold rln
    rw [Nat.add_comm]; exact this
  · have e : rln A S v = 72 := by unfold rln; omega
    have hp72 : agb (vc A S v) 72 p = true := agb_iff.mpr fun k hk _ => hp k hk
    by_cases h72 : p = 72
    · rw [h72] at hp72; rw [e]; exact hp72
    · have := hmin p hp1 (by omega)
      rw [hp72] at this; cases this
/-- from when on -/
def rst (A : aA) (S : Nat → Int) (v : Nat) : Nat := fst (fun F => agb (vc A S v) F (rln A S v)) 72
theorem rst_le (A : aA) (S : Nat → Int) (v : Nat) : rst A S v ≤ 72 := fst_le _ _
theorem rst_ok (hA : WF A) (hS : WS A S) {v : Nat} (hv : v < A 0 3) : agb (vc A S v) (rst A S v) (rln A S v) = true ∧ ∀ F, F < rst A S v → agb (vc A S v) F (rln A S v) = false := by
  refine ⟨?_, fun F hF => fst_no (fun F => agb (vc A S v) F (rln A S v)) 72 F hF⟩
  rcases Nat.lt_or_ge (rst A S v) 72 with h | h
  · exact fst_yes (fun F => agb (vc A S v) F (rln A S v)) 72 h
  · rw [show rst A S v = 72 by have := rst_le A S v; omega]
    exact (rln_ok hA hS hv).2.2.1
theorem h_again {v L : Nat} {g : Nat → Int} (hM : M 49 = trl A S v 216 g) (hL : L ≤ 72) : f_X1_comesAgain T (L : Int) M = some (bI (agb (vc A S v) 72 L)) := by
  unfold f_X1_comesAgain agb
  generalize hq0 : fst (fun i => !decide (vc A S v (72 + i) = vc A S v (72 + i + L))) (144 - 72) = q
  have hq : q ≤ 72 := hq0 ▸ fst_le _ _
  refine for_until (fun i n => l_X1_comesAgain_3 T (L : Int) M (fun w7 => some 1) n ((72 + i : Nat) : Int)) q (fun i n hi => ?_) (fun n => ?_) (by omega)
  · have hp := fst_no (fun i => !decide (vc A S v (72 + i) = vc A S v (72 + i + L))) (144 - 72) i (by omega)
    rw [Bool.not_eq_false', decide_eq_true_eq] at hp
    show l_X1_comesAgain_3 T (L : Int) M _ (n + 1) ((72 + i : Nat) : Int) = l_X1_comesAgain_3 T (L : Int) M _ n ((72 + (i + 1) : Nat) : Int)
    rw [l_X1_comesAgain_3, hM, Int.toNat_natCast, show (((72 + i : Nat) : Int) + (L : Int)).toNat = 72 + i + L by omega, trl_at (by omega), trl_at (by omega)]
    refine c_neg (by omega) (c_ite (by omega) (c_ite (by omega) (c_ite (by omega) (c_pos ?_ (c_ite (by omega) rfl)))))
    exact congrArg (fun x : Nat => (x : Int)) hp
  · show l_X1_comesAgain_3 T (L : Int) M _ (n + 1) ((72 + q : Nat) : Int) = _
    rw [l_X1_comesAgain_3]
    by_cases h72 : q = 72
    · rw [decide_eq_true (by omega)]
      exact c_pos (by omega) rfl
    · have hp := fst_yes (fun i => !decide (vc A S v (72 + i) = vc A S v (72 + i + L))) (144 - 72) (by omega)
      rw [hq0, Bool.not_eq_true', decide_eq_false_iff_not] at hp
      rw [hM, Int.toNat_natCast, show (((72 + q : Nat) : Int) + (L : Int)).toNat = 72 + q + L by omega, trl_at (by omega), trl_at (by omega), decide_eq_false (by omega)]
      refine c_neg (by omega) (c_ite (by omega) (c_ite (by omega) (c_ite (by omega) (c_neg ?_ rfl))))
      intro h; exact hp (by have : ((vc A S v (72 + q) : Nat) : Int) = ((vc A S v (72 + q + L) : Nat) : Int) := h
                            omega)
theorem h_roundLength (h : CQ M A S) {v : Nat} (hv : v < A 0 3) : f_X1_roundLength T (v : Int) M = some ((rln A S v : Int), setc M 49 (trl A S v 216 (M 49))) := by
  obtain ⟨r1, r2, r3, r4⟩ := rln_ok h.1 h.2.1 hv
  unfold f_X1_roundLength
  refine c_bind (h_follow (yrs := 216) h hv (show ash 49 = (100, 217) from rfl) (by decide) (by omega) (by omega)) ?_
  have hM : setc M 49 (trl A S v 216 (M 49)) 49 = trl A S v 216 (M 49) := setc_at
  generalize setc M 49 (trl A S v 216 (M 49)) = M2 at hM
  refine for_until (fun i n => l_X1_roundLength_14 T M2 (fun w10 => some (72, M2)) n ((1 + i : Nat) : Int)) (rln A S v - 1) (fun i n hi => ?_) (fun n => ?_) (by omega)
  · show l_X1_roundLength_14 T M2 _ (n + 1) ((1 + i : Nat) : Int) = l_X1_roundLength_14 T M2 _ n ((1 + (i + 1) : Nat) : Int)
    rw [l_X1_roundLength_14]
    refine c_neg (by omega) (c_bind (h_again hM (by omega)) ?_)
    rw [r4 (1 + i) (by omega) (by omega)]
    exact c_pos rfl (c_ite (by omega) (by rw [show ((1 + i : Nat) : Int) + 1 = ((1 + (i + 1) : Nat) : Int) by omega]))
  · show l_X1_roundLength_14 T M2 _ (n + 1) ((1 + (rln A S v - 1) : Nat) : Int) = _
    rw [l_X1_roundLength_14, show 1 + (rln A S v - 1) = rln A S v by omega]
    by_cases h72 : rln A S v = 72
    · rw [h72]; exact c_pos (by decide) rfl
    · refine c_neg (by omega) (c_bind (h_again hM r2) ?_)
      rw [r3]
      exact c_neg (by decide) rfl
def sp_round (A : aA) (S : Nat → Int) (v : Int) : Int × Int := gd (inr v (A 0 3)) (rln A S v.toNat : Int) 1
def sp_settles (A : aA) (S : Nat → Int) (v : Int) : Int × Int := gd (inr v (A 0 3)) (rst A S v.toNat : Int) 1
theorem c_round (h : CQ M A S) (v : Int) : opC (f_X11_round T v M) M (sp_round A S v) := by
  unfold f_X11_round sp_round
  refine oC_isVoice h.2.2.1 (fun hn => ?_) (fun v' hv hlt => ?_)
  · rw [gd_neg hn]; exact oC_ref
  · subst hv
    rw [gd_pos (inr_of hlt), Int.toNat_natCast]
    exact oC_bind (h_roundLength h hlt) (oC_al (sC_set (by decide)))
theorem c_settles (h : CQ M A S) (v : Int) : opC (f_X11_settles T v M) M (sp_settles A S v) := by
  unfold f_X11_settles sp_settles
  refine oC_isVoice h.2.2.1 (fun hn => ?_) (fun v' hv hlt => ?_)
  · rw [gd_neg hn]; exact oC_ref
  · subst hv
    rw [gd_pos (inr_of hlt), Int.toNat_natCast]
    have hle := rst_le A S v'
    obtain ⟨r1, r2, r3, r4⟩ := rln_ok h.1 h.2.1 hlt
    obtain ⟨s1, s2⟩ := rst_ok h.1 h.2.1 hlt
    refine oC_bind (v := ((rst A S v' : Int), setc M 49 (trl A S v' 216 (M 49)))) ?_ (oC_al (sC_set (by decide)))
    unfold f_X1_roundStart
    refine c_bind (h_roundLength h hlt) ?_
    have hM : setc M 49 (trl A S v' 216 (M 49)) 49 = trl A S v' 216 (M 49) := setc_at
    generalize setc M 49 (trl A S v' 216 (M 49)) = M2 at hM
    refine for_until (fun i n => l_X1_roundStart_9 T (rln A S v' : Int) M2 (fun w12 => some (w12, M2)) n ((72 - i : Nat) : Int)) (72 - rst A S v') (fun i n hi => ?_) (fun n => ?_) (by omega)
    · show l_X1_roundStart_9 T (rln A S v' : Int) M2 _ (n + 1) ((72 - i : Nat) : Int) = l_X1_roundStart_9 T (rln A S v' : Int) M2 _ n ((72 - (i + 1) : Nat) : Int)
      have hk := agb_iff.mp s1 (72 - i - 1) (by omega) (by omega)
      rw [l_X1_roundStart_9, hM, show (((72 - i : Nat) : Int) - 1).toNat = 72 - i - 1 by omega, show (((72 - i : Nat) : Int) - 1 + (rln A S v' : Int)).toNat = 72 - i - 1 + rln A S v' by omega, trl_at (by omega), trl_at (by omega)]
      refine c_neg (by omega) (c_ite (by omega) (c_ite (by omega) (c_ite (by omega) (c_ite (by omega) (c_pos ?_ (c_ite (by omega) ?_))))))
      · exact congrArg (fun x : Nat => (x : Int)) hk
      · rw [show ((72 - i : Nat) : Int) + (-1) = ((72 - (i + 1) : Nat) : Int) by omega]
    · show l_X1_roundStart_9 T (rln A S v' : Int) M2 _ (n + 1) ((72 - (72 - rst A S v') : Nat) : Int) = _
      rw [show 72 - (72 - rst A S v') = rst A S v' by omega, l_X1_roundStart_9]
      by_cases h0 : rst A S v' = 0
      · exact c_pos (by omega) rfl
      · have hno := s2 (rst A S v' - 1) (by omega)
        have hne : ¬ vc A S v' (rst A S v' - 1) = vc A S v' (rst A S v' - 1 + rln A S v') := by
          intro he
          have : agb (vc A S v') (rst A S v' - 1) (rln A S v') = true := agb_iff.mpr fun k h1 h2 => by
            by_cases hk : k = rst A S v' - 1
            · rw [hk]; exact he
            · exact agb_iff.mp s1 k (by omega) h2
          rw [this] at hno; cases hno
        rw [hM, show ((rst A S v' : Int) - 1).toNat = rst A S v' - 1 by omega, show ((rst A S v' : Int) - 1 + (rln A S v' : Int)).toNat = rst A S v' - 1 + rln A S v' by omega, trl_at (by omega), trl_at (by omega)]
        refine c_neg (by omega) (c_ite (by omega) (c_ite (by omega) (c_ite (by omega) (c_ite (by omega) (c_neg ?_ rfl)))))
        intro hx
        exact hne (by have : ((vc A S v' (rst A S v' - 1) : Nat) : Int) = ((vc A S v' (rst A S v' - 1 + rln A S v') : Nat) : Int) := hx
                      omega)
/-- the model's line -/
def lnf (A : aA) (S : Nat → Int) (v n : Nat) (g : Nat → Int) : Nat → Int := fun b => if b < n then ((vt A S v b).1 : Int) else g b
theorem lnf_at {v n b : Nat} {g : Nat → Int} (h : b < n) : lnf A S v n g b = ((vt A S v b).1 : Int) := if_pos h
theorem g_again {v F L : Nat} {g : Nat → Int} (hM : M 146 = lnf A S v 288 g) (hL : L ≤ 144) (hF : F ≤ 144) : f_X13_comesAgain T (F : Int) (L : Int) M = some (bI (agb (vc A S v) F L)) := by
  unfold f_X13_comesAgain agb
  generalize hq0 : fst (fun i => !decide (vc A S v (F + i) = vc A S v (F + i + L))) (144 - F) = q
  have hq : q ≤ 144 - F := hq0 ▸ fst_le _ _
  have := for_until (fun i n => l_X13_comesAgain_2 T (L : Int) M (fun w7 => some 1) n ((F + i : Nat) : Int)) (y := some (bI (decide (q = 144 - F)))) q (fun i n hi => ?_) (fun n => ?_) (by omega)
  · have t2 : l_X13_comesAgain_2 T (L : Int) M (fun w7 => some 1) FU ((F + 0 : Nat) : Int) = _ := this
    rw [Nat.add_zero] at t2
    exact t2
  · have hp := fst_no (fun i => !decide (vc A S v (F + i) = vc A S v (F + i + L))) (144 - F) i (by omega)
    rw [Bool.not_eq_false', decide_eq_true_eq] at hp
    show l_X13_comesAgain_2 T (L : Int) M _ (n + 1) ((F + i : Nat) : Int) = l_X13_comesAgain_2 T (L : Int) M _ n ((F + (i + 1) : Nat) : Int)
    rw [l_X13_comesAgain_2, hM, Int.toNat_natCast, show (((F + i : Nat) : Int) + (L : Int)).toNat = F + i + L by omega, lnf_at (by omega), lnf_at (by omega)]
    refine c_neg (by omega) (c_ite (by omega) (c_ite (by omega) (c_ite (by omega) (c_pos ?_ (c_ite (by omega) ?_)))))
    · exact congrArg (fun x : Nat => (x : Int)) hp
    · rw [show ((F + i : Nat) : Int) + 1 = ((F + (i + 1) : Nat) : Int) by omega]
  · show l_X13_comesAgain_2 T (L : Int) M _ (n + 1) ((F + q : Nat) : Int) = _
    rw [l_X13_comesAgain_2]
    by_cases h72 : q = 144 - F
    · rw [decide_eq_true h72]
      exact c_pos (by omega) rfl
    · have hp := fst_yes (fun i => !decide (vc A S v (F + i) = vc A S v (F + i + L))) (144 - F) (by omega)
      rw [hq0, Bool.not_eq_true', decide_eq_false_iff_not] at hp
      rw [hM, Int.toNat_natCast, show (((F + q : Nat) : Int) + (L : Int)).toNat = F + q + L by omega, lnf_at (by omega), lnf_at (by omega), decide_eq_false h72]
      refine c_neg (by omega) (c_ite (by omega) (c_ite (by omega) (c_ite (by omega) (c_neg ?_ rfl))))
      intro h; exact hp (by have : ((vc A S v (F + q) : Nat) : Int) = ((vc A S v (F + q + L) : Nat) : Int) := h
                            omega)
theorem aup_aup {n k : Nat} {x y : Int} : aup (aup M n k x) n k y = aup M n k y := by
  rw [aup_eq (M := M), aup_setc, aup_eq]
  congr 1
  funext b
  by_cases h : b = k
  · rw [if_pos h, if_pos h]
  · rw [if_neg h, if_neg h, if_neg h]
theorem g_lines (h : MD T M A S) (hw : MV T M w A) {v : Nat} (hv : v < A 0 3) : ∃ M2, f_X13_lines T (v : Int) M = some (0, M2) ∧ sM M M2 ∧ M2 138 25 = (rst A S v : Int) ∧ M2 138 26 = (rln A S v : Int) := by
  have hA := h.1
  have hS := h.2.1
  have h3 := hA.1.2.2.2.1
  obtain ⟨r1, r2, r3, r4⟩ := rln_ok hA hS hv
  obtain ⟨s1, s2⟩ := rst_ok hA hS hv
  have hle := rst_le A S v
  have hk := h.mk hw
  have hsm := sM_works (M := M) (A := A) (dr := dS S)
  have hwk := h.works hw
  unfold f_X13_lines
  generalize worksM M A (dS S) = W at hk hsm hwk
  have hyr := hk.yr hA hS
  rw [hwk]
  show ∃ M2, l_X13_lines_6 T (v : Int) _ FU 0 W = some (0, M2) ∧ _
  have k6 : ∀ kk : Int → aM → Option (Int × aM), l_X13_lines_6 T (v : Int) kk FU 0 W = kk 288 (setc (setc W 146 (lnf A S v 288 (W 146))) 141 (xf A S (W 141) 288)) := by
    intro kk
    have e0 : setc (setc W 146 (lnf A S v 0 (W 146))) 141 (xf A S (W 141) 0) = W := by
      have : lnf A S v 0 (W 146) = W 146 := funext fun b => if_neg (Nat.not_lt_zero b)
      rw [this, setc_self, ← hyr]
    have := for_until (fun i n => l_X13_lines_6 T (v : Int) kk n (i : Int) (setc (setc W 146 (lnf A S v i (W 146))) 141 (xf A S (W 141) i))) (y := kk 288 (setc (setc W 146 (lnf A S v 288 (W 146))) 141 (xf A S (W 141) 288))) 288 (fun i n hi => ?_) (fun n => ?_) (by omega)
    · have t2 : l_X13_lines_6 T (v : Int) kk FU ((0 : Nat) : Int) (setc (setc W 146 (lnf A S v 0 (W 146))) 141 (xf A S (W 141) 0)) = _ := this
      rw [e0] at t2
      exact t2
    · show l_X13_lines_6 T (v : Int) kk (n + 1) (i : Int) _ = l_X13_lines_6 T (v : Int) kk n ((i + 1 : Nat) : Int) _
      rw [l_X13_lines_6, setc_at, Int.toNat_natCast, Int.toNat_natCast, xf_v hA hv, aup_setc2 (by decide), aup_setc]
      have e1 : (fun b => if b = i then ((vt A S v i).1 : Int) else lnf A S v i (W 146) b) = lnf A S v (i + 1) (W 146) := by
        funext b
        unfold lnf
        by_cases hb : b = i
        · rw [if_pos hb, if_pos (by omega), hb]
        · rw [if_neg hb]
          by_cases hb2 : b < i
          · rw [if_pos hb2, if_pos (by omega)]
          · rw [if_neg hb2, if_neg (by omega)]
      rw [e1]
      have hL2 : LM (setc W 146 (lnf A S v (i + 1) (W 146))) A (dS S) := by
        have := hk.2.1
        unfold LM at this ⊢
        rw [setc_ne (by decide), setc_ne (by decide)]; exact this
      exact c_neg (by omega) (c_ite (by omega) (c_ite (by omega) (c_some (c_bind (g_aYear hA hS (mv_ne hk.1 (by omega) _) hL2 (by omega)) (c_ite (by omega) rfl)))))
    · show l_X13_lines_6 T (v : Int) kk (n + 1) ((288 : Nat) : Int) _ = _
      rw [l_X13_lines_6]
      exact c_pos (by decide) rfl
  rw [k6]
  have h146 : setc (setc W 146 (lnf A S v 288 (W 146))) 141 (xf A S (W 141) 288) 146 = lnf A S v 288 (W 146) := by rw [setc_ne (by decide), setc_at]
  have hsm3 : sM W (setc (setc W 146 (lnf A S v 288 (W 146))) 141 (xf A S (W 141) 288)) := (sM_set (by omega)).trans (sM_set (by omega))
  generalize setc (setc W 146 (lnf A S v 288 (W 146))) 141 (xf A S (W 141) 288) = Z at h146 hsm3
  have up146 : ∀ (Y : aM) (k : Nat) (x : Int), aup Y 138 k x 146 = Y 146 := fun Y k x => aup_nc (by decide)
  have k41 : ∀ kk : aM → Option (Int × aM), l_X13_lines_41 T kk FU (aup Z 138 26 1) = kk (aup Z 138 26 (rln A S v : Int)) := by
    intro kk
    refine for_until (fun i n => l_X13_lines_41 T kk n (aup Z 138 26 ((1 + i : Nat) : Int))) (rln A S v - 1) (fun i n hi => ?_) (fun n => ?_) (by omega)
    · show l_X13_lines_41 T kk (n + 1) (aup Z 138 26 ((1 + i : Nat) : Int)) = l_X13_lines_41 T kk n (aup Z 138 26 ((1 + (i + 1) : Nat) : Int))
      rw [l_X13_lines_41, aup_at]
      refine c_bind (g_again (F := 72) (v := v) (g := W 146) (by rw [up146]; exact h146) (by omega) (by omega)) ?_
      rw [r4 (1 + i) (by omega) (by omega)]
      refine c_pos rfl (c_ite (by omega) (c_some ?_))
      rw [aup_aup, show ((1 + i : Nat) : Int) + 1 = ((1 + (i + 1) : Nat) : Int) by omega]
    · show l_X13_lines_41 T kk (n + 1) (aup Z 138 26 ((1 + (rln A S v - 1) : Nat) : Int)) = _
      rw [show 1 + (rln A S v - 1) = rln A S v by omega, l_X13_lines_41, aup_at]
      refine c_bind (g_again (F := 72) (v := v) (g := W 146) (by rw [up146]; exact h146) (by omega) (by omega)) ?_
      rw [r3]
      exact c_neg (by decide) rfl
  have k72 : ∀ (Y : aM) (kk : aM → Option (Int × aM)), Y 146 = lnf A S v 288 (W 146) → Y 138 26 = (rln A S v : Int) → l_X13_lines_72 T kk FU (aup Y 138 25 0) = kk (aup Y 138 25 (rst A S v : Int)) := by
    intro Y kk hY hY2
    refine for_until (fun i n => l_X13_lines_72 T kk n (aup Y 138 25 (i : Int))) (rst A S v) (fun i n hi => ?_) (fun n => ?_) (by omega)
    · show l_X13_lines_72 T kk (n + 1) (aup Y 138 25 (i : Int)) = l_X13_lines_72 T kk n (aup Y 138 25 ((i + 1 : Nat) : Int))
      rw [l_X13_lines_72, aup_at, aup_ne2 (by decide), hY2]
      refine c_bind (g_again (v := v) (g := W 146) (by rw [up146]; exact hY) (by omega) (by omega)) ?_
      rw [s2 i hi]
      refine c_pos rfl (c_ite (by omega) (c_some ?_))
      rw [aup_aup]; rfl
    · show l_X13_lines_72 T kk (n + 1) (aup Y 138 25 (rst A S v : Int)) = _
      rw [l_X13_lines_72, aup_at, aup_ne2 (by decide), hY2]
      refine c_bind (g_again (v := v) (g := W 146) (by rw [up146]; exact hY) (by omega) (by omega)) ?_
      rw [s1]
      exact c_neg (by decide) rfl
  refine ⟨aup (aup Z 138 26 (rln A S v : Int)) 138 25 (rst A S v : Int), ?_, ?_, aup_at, ?_⟩
  · show l_X13_lines_41 T _ FU (aup Z 138 26 1) = _
    rw [k41]
    refine c_some ?_
    rw [k72 _ _ (by rw [up146]; exact h146) aup_at]
  · exact hsm.trans (hsm3.trans ((sM_fl (by omega)).trans (sM_fl (by omega))))
  · rw [aup_ne2 (by decide)]; exact aup_at
theorem m_round (h : MD T M A S) (v : Int) : opM (f_X13_round T v M) M (sp_round A S v) := by
  unfold f_X13_round sp_round
  refine oM_bind rfl ?_
  have h1 : sM M (aup M 138 0 0) := sM_fl (by omega)
  have hm1 := h.of h1
  refine oM_isVoice hm1 (fun hn => ?_) (fun v' hv hlt => ?_)
  · rw [gd_neg hn]; exact oM_ref h1
  · subst hv
    rw [gd_pos (inr_of hlt), Int.toNat_natCast]
    obtain ⟨w, hw⟩ := hm1.has (by omega)
    obtain ⟨M2, e1, e2, e3, e4⟩ := g_lines hm1 hw hlt
    refine oM_bind e1 ?_
    show opM ((f_X13_good T (M2 138 26) M2).bind fun x10 => some (x10.1, x10.2)) M _
    rw [e4]; exact oM_good (h1.trans e2)
theorem m_settles (h : MD T M A S) (v : Int) : opM (f_X13_settles T v M) M (sp_settles A S v) := by
  unfold f_X13_settles sp_settles
  refine oM_bind rfl ?_
  have h1 : sM M (aup M 138 0 0) := sM_fl (by omega)
  have hm1 := h.of h1
  refine oM_isVoice hm1 (fun hn => ?_) (fun v' hv hlt => ?_)
  · rw [gd_neg hn]; exact oM_ref h1
  · subst hv
    rw [gd_pos (inr_of hlt), Int.toNat_natCast]
    obtain ⟨w, hw⟩ := hm1.has (by omega)
    obtain ⟨M2, e1, e2, e3, e4⟩ := g_lines hm1 hw hlt
    refine oM_bind e1 ?_
    show opM ((f_X13_good T (M2 138 25) M2).bind fun x10 => some (x10.1, x10.2)) M _
    rw [e3]; exact oM_good (h1.trans e2)
end Rnd
