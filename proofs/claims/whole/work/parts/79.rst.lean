/-! ===== answers, rests, rest ===== -/
section Rst
variable {A : aA} {S : Nat → Int} {T e w : Nat} {M M1 M0 : aM}
def gn (f a b : Int) : Int := if a = 0 then (if b = 0 then 1 else -f) else (if b = 0 then 3 else 2)
theorem h_gain {f a b : Int} (hf : 0 ≤ f ∧ f ≤ 9) : f_X11_gain T f a b M = some (gn f a b) := by
  unfold f_X11_gain gn
  by_cases ha : a = 0
  · rw [if_pos ha, if_pos ha]
    by_cases hb : b = 0
    · rw [if_pos hb, if_pos hb]
    · rw [if_neg hb, if_neg hb]
      exact c_ite (by omega) rfl
  · rw [if_neg ha, if_neg ha]
    by_cases hb : b = 0
    · rw [if_pos hb, if_pos hb]
    · rw [if_neg hb, if_neg hb]
theorem g_answered {f a b : Int} (hf : 0 ≤ f ∧ f ≤ 9) : f_X13_answered T f a b M = some (gn f a b) := h_gain (M := M) (T := T) hf
def rsI (f p b : Int) : Int := if gn f p b < gn f (if p = 0 then 1 else 0) b then 0 else if gn f b p < gn f (if b = 0 then 1 else 0) p then 0 else 1
theorem h_isRest {f p b : Int} (hf : 0 ≤ f ∧ f ≤ 9) : f_X11_isRest T f p b M = some (rsI f p b) := by
  have k33 : ∀ z : Int, b_X11_isRest_33 T f p b f z M = some (if gn f b p < gn f z p then 0 else 1) := by
    intro z
    unfold b_X11_isRest_33
    refine c_bind (h_gain hf) (c_bind (h_gain hf) ?_)
    split <;> rfl
  have k10 : ∀ z : Int, b_X11_isRest_10 T f p b f z M = some (if gn f p b < gn f z b then 0 else if gn f b p < gn f (if b = 0 then 1 else 0) p then 0 else 1) := by
    intro z
    unfold b_X11_isRest_10
    refine c_bind (h_gain hf) (c_bind (h_gain hf) ?_)
    by_cases h1 : gn f p b < gn f z b
    · rw [if_pos h1, if_pos h1]
    · rw [if_neg h1, if_neg h1]
      by_cases hb : b = 0
      · rw [if_pos hb, if_pos hb, k33]
      · rw [if_neg hb, if_neg hb, k33]
  unfold f_X11_isRest rsI
  by_cases hp : p = 0
  · rw [if_pos hp, if_pos hp, k10]
  · rw [if_neg hp, if_neg hp, k10]
def pk (k : Nat) : Int := if k < 2 then 0 else 1
def bk2 (k : Nat) : Int := if k % 2 = 1 then 1 else 0
theorem g_isRest {f : Int} {k : Nat} (hf : 0 ≤ f ∧ f ≤ 9) (hk : k < 4) : f_X13_isRest T f (k : Int) M = some (rsI f (pk k) (bk2 k)) := by
  have k57 : ∀ p b z : Int, b_X13_isRest_57 T f p b f z M = some (if gn f b p < gn f z p then 0 else 1) := by
    intro p b z
    unfold b_X13_isRest_57
    refine c_bind (g_answered hf) (c_bind (g_answered hf) ?_)
    split <;> rfl
  have k34 : ∀ p b z : Int, b_X13_isRest_34 T f p b f z M = some (if gn f p b < gn f z b then 0 else if gn f b p < gn f (if b = 0 then 1 else 0) p then 0 else 1) := by
    intro p b z
    unfold b_X13_isRest_34
    refine c_bind (g_answered hf) (c_bind (g_answered hf) ?_)
    by_cases h1 : gn f p b < gn f z b
    · rw [if_pos h1, if_pos h1]
    · rw [if_neg h1, if_neg h1]
      by_cases hb : b = 0
      · rw [if_pos hb, if_pos hb, k57]
      · rw [if_neg hb, if_neg hb, k57]
  have k23 : ∀ p b : Int, b_X13_isRest_23 T f p b M = some (rsI f p b) := by
    intro p b
    unfold b_X13_isRest_23 rsI
    by_cases hp : p = 0
    · rw [if_pos hp, if_pos hp, k34]
    · rw [if_neg hp, if_neg hp, k34]
  have k10 : ∀ p : Int, b_X13_isRest_10 T f (k : Int) p M = some (rsI f p (bk2 k)) := by
    intro p
    unfold b_X13_isRest_10 bk2
    rw [show (2 : Int) = ((2 : Nat) : Int) from rfl, arem_nat (by omega) (by decide)]
    by_cases h : k % 2 = 1
    · rw [if_pos h, if_pos (by omega), k23]
    · rw [if_neg h, if_neg (by omega), k23]
  unfold f_X13_isRest pk
  by_cases h : k < 2
  · rw [if_pos h, if_pos (by omega), k10]
  · rw [if_neg h, if_neg (by omega), k10]
/-- fear that is refused -/
def fwh (A : aA) (f : Int) : Int := if 0 < A 0 0 then (if 0 ≤ f ∧ f ≤ 9 then 0 else 2) else 1
theorem h_refuses (hC : CT M A) (f : Int) : f_X11_refusesFear T f M = some (if fwh A f = 0 then 0 else 1, aup M 0 14 (fwh A f)) := by
  have k38 : ∀ x : Int, b_X11_refusesFear_38 T (aup M 0 14 x) = some (if x = 0 then 0 else 1, aup M 0 14 x) := by
    intro x
    unfold b_X11_refusesFear_38
    rw [aup_at]
    split <;> rfl
  unfold f_X11_refusesFear fwh f_X11_hasWell
  rw [hC.1 0 (by decide)]
  by_cases hp : 0 < A 0 0
  · rw [if_pos hp]
    refine c_bind (v := 1) (by rw [if_neg (by omega)]) (c_neg (by decide) ?_)
    by_cases h0 : f < 0
    · rw [if_neg (show ¬ (0 ≤ f ∧ f ≤ 9) by omega)]
      refine c_pos h0 ?_
      unfold b_X11_refusesFear_25
      exact c_some (k38 2)
    · refine c_neg h0 ?_
      by_cases h9 : f ≤ 9
      · rw [if_pos (show 0 ≤ f ∧ f ≤ 9 by omega)]
        exact c_pos h9 (c_some (k38 0))
      · rw [if_neg (show ¬ (0 ≤ f ∧ f ≤ 9) by omega)]
        refine c_neg h9 ?_
        unfold b_X11_refusesFear_25
        exact c_some (k38 2)
  · rw [if_neg hp]
    exact c_bind (v := 0) (by rw [if_pos (by omega)]) (c_pos rfl (c_some (k38 1)))
theorem g_refuses (h : MD T M A S) (f : Int) : f_X13_refusesFear T f M = some (fwh A f) := by
  unfold f_X13_refusesFear fwh
  rcases h.2.2.1 with ⟨h0, hn⟩ | ⟨h0, w, m1, m2, m3⟩
  · rw [hn, if_pos (by decide), if_neg (by omega)]
  · rw [m1, if_neg (by omega), if_pos (by omega)]
    unfold f_X13_in
    by_cases hf0 : f < 0
    · rw [if_pos hf0, if_neg (show ¬ (0 ≤ f ∧ f ≤ 9) by omega)]; rfl
    · rw [if_neg hf0]
      by_cases h9 : 9 < f
      · rw [if_pos h9, if_neg (show ¬ (0 ≤ f ∧ f ≤ 9) by omega)]; rfl
      · rw [if_neg h9, if_pos (show 0 ≤ f ∧ f ≤ 9 by omega)]; rfl
theorem fwh_0 {f : Int} (h : fwh A f = 0) : 0 ≤ f ∧ f ≤ 9 := by
  unfold fwh at h
  split at h
  · split at h
    · rename_i h2; exact h2
    · cases h
  · cases h
theorem fwh_pos {f : Int} (h : ¬ fwh A f = 0) : 0 < fwh A f := by
  unfold fwh at h ⊢
  split
  · split
    · rename_i h1 h2; rw [if_pos h1, if_pos h2] at h; exact absurd rfl h
    · decide
  · decide
def sp_answers (A : aA) (f p b o : Int) : Int × Int := if fwh A f = 0 then (if o = 0 then gn f p b else gn f b p, 0) else (-100, fwh A f)
theorem c_answers (h : CQ M A S) (f p b o : Int) : opC (f_X11_answers T f p b o M) M (sp_answers A f p b o) := by
  unfold f_X11_answers sp_answers
  refine oC_bind (h_refuses h.2.2.1 f) ?_
  by_cases h0 : fwh A f = 0
  · rw [if_pos h0, if_pos h0, h0]
    refine oC_pos rfl ?_
    by_cases ho : o = 0
    · refine oC_pos ho ?_
      rw [if_pos ho]
      exact oC_bind (h_gain (fwh_0 h0)) ⟨_, rfl, qC_up (sC.refl M)⟩
    · refine oC_neg ho ?_
      rw [if_neg ho]
      exact oC_bind (h_gain (fwh_0 h0)) ⟨_, rfl, qC_up (sC.refl M)⟩
  · rw [if_neg h0, if_neg h0]
    exact oC_neg (show ¬ (1 : Int) = 0 by decide) ⟨_, rfl, qC_up (sC.refl M)⟩
theorem m_answers (h : MD T M A S) (f p b o : Int) : opM (f_X13_answers T f p b o M) M (sp_answers A f p b o) := by
  unfold f_X13_answers sp_answers
  refine oM_bind rfl ?_
  have h1 : sM M (aup M 138 0 0) := sM_fl (by omega)
  have hm1 := h.of h1
  refine oM_bind (g_refuses hm1 f) ?_
  by_cases h0 : fwh A f = 0
  · rw [if_pos h0]
    refine oM_pos (by omega) ?_
    by_cases ho : o = 0
    · refine oM_pos ho ?_
      rw [if_pos ho]; exact oM_bind (g_answered (fwh_0 h0)) (oM_good h1)
    · refine oM_neg ho ?_
      rw [if_neg ho]; exact oM_bind (g_answered (fwh_0 h0)) (oM_good h1)
  · rw [if_neg h0]
    have := fwh_pos h0
    exact oM_neg (by omega) ⟨aup (aup (aup M 138 0 0) 138 1 (fwh A f)) 138 2 (-1), rfl, qM_up h1⟩
def rsp (f : Int) (k : Nat) : Bool := !decide (rsI f (pk k) (bk2 k) = 0)
def sp_rests (A : aA) (f : Int) : Int × Int := if fwh A f = 0 then (((cntp (rsp f) 4 : Nat) : Int), 0) else (-1, fwh A f)
theorem h_rests14 {f : Int} (hf : 0 ≤ f ∧ f ≤ 9) (kk : Int → Int → Option (Int × aM)) : l_X11_rests_14 T f M kk FU 0 0 = kk ((cntp (rsp f) 4 : Nat) : Int) 4 := by
  refine cnt_loop (fun n b i => l_X11_rests_14 T f M kk n b i) 4 (rsp f) (by omega) (fun i n hi => ?_) (fun n => ?_)
  · have hcl := cntp_le (rsp f) i
    have core : ∀ x : Int, x = rsI f (pk i) (bk2 i) → (if x = 0 then (if aIn ((i : Int) + 1) then l_X11_rests_14 T f M kk n ((cntp (rsp f) i : Nat) : Int) ((i : Int) + 1) else none) else (if aIn (((cntp (rsp f) i : Nat) : Int) + 1) then (if aIn ((i : Int) + 1) then l_X11_rests_14 T f M kk n (((cntp (rsp f) i : Nat) : Int) + 1) ((i : Int) + 1) else none) else none)) = l_X11_rests_14 T f M kk n (if rsp f i = true then ((cntp (rsp f) i : Nat) : Int) + 1 else ((cntp (rsp f) i : Nat) : Int)) ((i : Int) + 1) := by
      intro x hx
      by_cases h0 : x = 0
      · rw [if_neg (show ¬ rsp f i = true by unfold rsp; rw [decide_eq_true (hx ▸ h0)]; decide)]
        exact c_pos h0 (c_ite (by omega) rfl)
      · rw [if_pos (show rsp f i = true by unfold rsp; rw [decide_eq_false (hx ▸ h0)]; rfl)]
        exact c_neg h0 (c_ite (by omega) (c_ite (by omega) rfl))
    show l_X11_rests_14 T f M kk (n + 1) _ (i : Int) = _
    rw [l_X11_rests_14, show (2 : Int) = ((2 : Nat) : Int) from rfl, arem_nat (by omega) (by decide)]
    refine c_neg (by omega) ?_
    by_cases h2 : i < 2
    · have ep : pk i = 0 := if_pos h2
      refine c_pos (by omega) ?_
      by_cases hb : i % 2 = 1
      · have eb : bk2 i = 1 := if_pos hb
        exact c_pos (by omega) (c_bind (h_isRest hf) (core _ (by rw [ep, eb])))
      · have eb : bk2 i = 0 := if_neg hb
        exact c_neg (by omega) (c_bind (h_isRest hf) (core _ (by rw [ep, eb])))
    · have ep : pk i = 1 := if_neg h2
      refine c_neg (by omega) ?_
      by_cases hb : i % 2 = 1
      · have eb : bk2 i = 1 := if_pos hb
        exact c_pos (by omega) (c_bind (h_isRest hf) (core _ (by rw [ep, eb])))
      · have eb : bk2 i = 0 := if_neg hb
        exact c_neg (by omega) (c_bind (h_isRest hf) (core _ (by rw [ep, eb])))
  · show l_X11_rests_14 T f M kk (n + 1) _ ((4 : Nat) : Int) = _
    rw [l_X11_rests_14]
    exact c_pos (by decide) rfl
theorem c_rests (h : CQ M A S) (f : Int) : opC (f_X11_rests T f M) M (sp_rests A f) := by
  unfold f_X11_rests sp_rests
  refine oC_bind (h_refuses h.2.2.1 f) ?_
  by_cases h0 : fwh A f = 0
  · rw [if_pos h0, if_pos h0, h0]
    refine oC_pos rfl ?_
    rw [h_rests14 (fwh_0 h0)]
    exact ⟨_, rfl, qC_up (sC.refl M)⟩
  · rw [if_neg h0, if_neg h0]
    exact oC_neg (show ¬ (1 : Int) = 0 by decide) ⟨_, rfl, qC_up (sC.refl M)⟩
theorem m_rests (h : MD T M A S) (f : Int) : opM (f_X13_rests T f M) M (sp_rests A f) := by
  unfold f_X13_rests sp_rests
  refine oM_bind rfl ?_
  have h1 : sM M (aup M 138 0 0) := sM_fl (by omega)
  have hm1 := h.of h1
  refine oM_bind (g_refuses hm1 f) ?_
  by_cases h0 : fwh A f = 0
  · rw [if_pos h0]
    refine oM_pos (by omega) ?_
    have hf := fwh_0 h0
    generalize aup M 138 0 0 = M2 at h1 hm1
    have key : ∀ kk : Int → Int → Option (Int × aM), l_X13_rests_26 T f M2 kk FU 0 0 = kk ((cntp (rsp f) 4 : Nat) : Int) 4 := by
      intro kk
      refine cnt_loop (fun n b i => l_X13_rests_26 T f M2 kk n b i) 4 (rsp f) (by omega) (fun i n hi => ?_) (fun n => ?_)
      · have hcl := cntp_le (rsp f) i
        show l_X13_rests_26 T f M2 kk (n + 1) _ (i : Int) = l_X13_rests_26 T f M2 kk n _ _
        rw [l_X13_rests_26, Int.add_zero]
        refine c_neg (by omega) (c_bind (g_isRest hf hi) ?_)
        by_cases hx : rsI f (pk i) (bk2 i) = 0
        · rw [if_neg (show ¬ rsp f i = true by unfold rsp; rw [decide_eq_true hx]; decide)]
          exact c_pos hx (c_ite (by omega) (c_ite (by omega) rfl))
        · rw [if_pos (show rsp f i = true by unfold rsp; rw [decide_eq_false hx]; rfl)]
          exact c_neg hx (c_ite (by omega) (c_ite (by omega) rfl))
      · show l_X13_rests_26 T f M2 kk (n + 1) _ ((4 : Nat) : Int) = _
        rw [l_X13_rests_26]
        exact c_pos (by decide) rfl
    rw [key]; exact oM_good h1
  · rw [if_neg h0]
    have := fwh_pos h0
    exact oM_neg (by omega) (oM_ref h1)
def sp_rest (A : aA) (f : Int) : Int × Int := if fwh A f = 0 then (if fst (rsp f) 4 < 4 then ((10 * (fst (rsp f) 4 / 2) + fst (rsp f) 4 % 2 : Nat) : Int) else -2, 0) else (-1, fwh A f)
theorem c_rest (h : CQ M A S) (f : Int) : opC (f_X11_rest T f M) M (sp_rest A f) := by
  unfold f_X11_rest sp_rest
  refine oC_bind (h_refuses h.2.2.1 f) ?_
  by_cases h0 : fwh A f = 0
  · rw [if_pos h0, if_pos h0, h0]
    refine oC_pos rfl ?_
    have hf := fwh_0 h0
    have hq := qC_up (tr := 0) (sC.refl M)
    generalize aup M 0 14 0 = M2 at hq
    have key : ∀ kk : Int → Option (Int × aM), l_X11_rest_12 T f M2 kk FU 0 = if fst (rsp f) 4 < 4 then some (((10 * (fst (rsp f) 4 / 2) + fst (rsp f) 4 % 2 : Nat) : Int), M2) else kk 4 := by
      intro kk
      have core : ∀ (i n : Nat) (x : Int), i < 4 → x = rsI f (pk i) (bk2 i) → (if x = 0 then (if aIn ((i : Int) + 1) then l_X11_rest_12 T f M2 kk n ((i : Int) + 1) else none) else (if aIn (((i / 2 : Nat) : Int) * 10) then (if aIn (((i / 2 : Nat) : Int) * 10 + ((i % 2 : Nat) : Int)) then some (((i / 2 : Nat) : Int) * 10 + ((i % 2 : Nat) : Int), M2) else none) else none)) = if rsp f i = true then some (((10 * (i / 2) + i % 2 : Nat) : Int), M2) else l_X11_rest_12 T f M2 kk n ((i : Int) + 1) := by
        intro i n x hi hx
        by_cases hx0 : x = 0
        · rw [if_neg (show ¬ rsp f i = true by unfold rsp; rw [decide_eq_true (hx ▸ hx0)]; decide)]
          exact c_pos hx0 (c_ite (by omega) rfl)
        · rw [if_pos (show rsp f i = true by unfold rsp; rw [decide_eq_false (hx ▸ hx0)]; rfl)]
          refine c_neg hx0 (c_ite (by omega) (c_ite (by omega) ?_))
          rw [show ((i / 2 : Nat) : Int) * 10 + ((i % 2 : Nat) : Int) = ((10 * (i / 2) + i % 2 : Nat) : Int) by omega]
      have stepe : ∀ (i n : Nat), i < 4 → l_X11_rest_12 T f M2 kk (n + 1) (i : Int) = if rsp f i = true then some (((10 * (i / 2) + i % 2 : Nat) : Int), M2) else l_X11_rest_12 T f M2 kk n ((i : Int) + 1) := by
        intro i n hi
        rw [l_X11_rest_12, show (2 : Int) = ((2 : Nat) : Int) from rfl, arem_nat (by omega) (by decide), adiv_nat (by omega) (by decide)]
        refine c_neg (by omega) ?_
        by_cases h2 : i < 2
        · have ep : pk i = 0 := if_pos h2
          refine c_pos (by omega) ?_
          by_cases hb : i % 2 = 1
          · have eb : bk2 i = 1 := if_pos hb
            exact c_pos (by omega) (c_bind (h_isRest hf) (core i n _ hi (by rw [ep, eb])))
          · have eb : bk2 i = 0 := if_neg hb
            exact c_neg (by omega) (c_bind (h_isRest hf) (core i n _ hi (by rw [ep, eb])))
        · have ep : pk i = 1 := if_neg h2
          refine c_neg (by omega) ?_
          by_cases hb : i % 2 = 1
          · have eb : bk2 i = 1 := if_pos hb
            exact c_pos (by omega) (c_bind (h_isRest hf) (core i n _ hi (by rw [ep, eb])))
          · have eb : bk2 i = 0 := if_neg hb
            exact c_neg (by omega) (c_bind (h_isRest hf) (core i n _ hi (by rw [ep, eb])))
      refine find_loop (fun n i => l_X11_rest_12 T f M2 kk n i) 4 (rsp f) (fun i => some (((10 * (i / 2) + i % 2 : Nat) : Int), M2)) (by omega) (fun i n hi hp => ?_) (fun i n hi hp => ?_) (fun n => ?_)
      · show l_X11_rest_12 T f M2 kk (n + 1) (i : Int) = _
        rw [stepe i n hi, if_neg (by rw [hp]; decide)]
      · show l_X11_rest_12 T f M2 kk (n + 1) (i : Int) = _
        rw [stepe i n hi, if_pos hp]
      · show l_X11_rest_12 T f M2 kk (n + 1) ((4 : Nat) : Int) = _
        rw [l_X11_rest_12]
        exact c_pos (by decide) rfl
    rw [key]
    by_cases hq4 : fst (rsp f) 4 < 4
    · rw [if_pos hq4, if_pos hq4]; exact ⟨_, rfl, hq⟩
    · rw [if_neg hq4, if_neg hq4]; exact ⟨_, rfl, hq⟩
  · rw [if_neg h0, if_neg h0]
    exact oC_neg (show ¬ (1 : Int) = 0 by decide) ⟨_, rfl, qC_up (sC.refl M)⟩
theorem m_rest (h : MD T M A S) (f : Int) : opM (f_X13_rest T f M) M (sp_rest A f) := by
  unfold f_X13_rest sp_rest
  refine oM_bind rfl ?_
  have h1 : sM M (aup M 138 0 0) := sM_fl (by omega)
  have hm1 := h.of h1
  refine oM_bind (g_refuses hm1 f) ?_
  by_cases h0 : fwh A f = 0
  · rw [if_pos h0]
    refine oM_pos (by omega) ?_
    have hf := fwh_0 h0
    generalize aup M 138 0 0 = M2 at h1 hm1
    have key : ∀ kk : Int → Option (Int × aM), l_X13_rest_23 T f M2 kk FU 0 = if fst (rsp f) 4 < 4 then (f_X13_good T ((10 * (fst (rsp f) 4 / 2) + fst (rsp f) 4 % 2 : Nat) : Int) M2).bind (fun x13 => some (x13.1, x13.2)) else kk 4 := by
      intro kk
      refine find_loop (fun n i => l_X13_rest_23 T f M2 kk n i) 4 (rsp f) (fun i => (f_X13_good T ((10 * (i / 2) + i % 2 : Nat) : Int) M2).bind (fun x13 => some (x13.1, x13.2))) (by omega) (fun i n hi hp => ?_) (fun i n hi hp => ?_) (fun n => ?_)
      · show l_X13_rest_23 T f M2 kk (n + 1) (i : Int) = _
        rw [l_X13_rest_23]
        unfold rsp at hp
        rw [Bool.not_eq_false', decide_eq_true_eq] at hp
        exact c_neg (by omega) (c_bind (g_isRest hf hi) (c_pos hp (c_ite (by omega) rfl)))
      · show l_X13_rest_23 T f M2 kk (n + 1) (i : Int) = _
        rw [l_X13_rest_23, show (2 : Int) = ((2 : Nat) : Int) from rfl, arem_nat (by omega) (by decide), adiv_nat (by omega) (by decide)]
        unfold rsp at hp
        rw [Bool.not_eq_true', decide_eq_false_iff_not] at hp
        refine c_neg (by omega) (c_bind (g_isRest hf hi) (c_neg hp (c_ite (by omega) (c_ite (by omega) ?_))))
        rw [show 10 * ((i / 2 : Nat) : Int) + ((i % 2 : Nat) : Int) = ((10 * (i / 2) + i % 2 : Nat) : Int) by omega]
      · show l_X13_rest_23 T f M2 kk (n + 1) ((4 : Nat) : Int) = _
        rw [l_X13_rest_23]
        exact c_pos (by decide) rfl
    rw [key]
    by_cases hq4 : fst (rsp f) 4 < 4
    · rw [if_pos hq4, if_pos hq4]; exact oM_good h1
    · rw [if_neg hq4, if_neg hq4]; exact oM_good h1
  · rw [if_neg h0]
    have := fwh_pos h0
    exact oM_neg (by omega) (oM_ref h1)
end Rst
