/-! ===== hearers, heardFrom, cave, way, voice, folk, echo, called, farthest ===== -/
section Opb
variable {A : aA} {S : Nat → Int} {T e w : Nat} {M M0 : aM} {dr : Nat → Bool}
/-- the model at work on all as it is -/
def MK (T : Nat) (M : aM) (w : Nat) (A : aA) (S : Nat → Int) : Prop := MV T M w A ∧ LM M A (dS S) ∧ (∀ k, k < 12 → M 141 k = S k) ∧ ∀ k, k < 12 → M 140 k = S k
theorem MD.mk (h : MD T M A S) (hm : MV T M w A) : MK T (worksM M A (dS S)) w A S := ⟨mv_worksM hm, worksM_LM, fun k hk => (worksM_x hk).trans (h.2.2.2 k hk), fun k hk => by rw [worksM_ne (by decide)]; exact h.2.2.2 k hk⟩
theorem WS.vo (h : WS A S) {k : Nat} (hk : k < A 0 3) : ∃ c : Nat, S k = (c : Int) ∧ c < A 0 1 := by
  have := h.1 k hk
  exact ⟨(S k).toNat, by omega, by omega⟩
theorem WS.fo (h : WS A S) {k : Nat} (hk : k < A 0 4) : ∃ c : Nat, S (6 + k) = (c : Int) ∧ c < A 0 1 := by
  have := h.2.1 k hk
  exact ⟨(S (6 + k)).toNat, by omega, by omega⟩
/-- the folk who hear a cave -/
def hrs (A : aA) (S : Nat → Int) (c : Nat) : Nat := msk (fun f => decide (dst A (dS S) (S (6 + f)).toNat c ≤ A 1 0)) (A 0 4)
theorem h_hearersOf (h : CQ M A S) {c : Nat} (hc : c < A 0 1) : f_X11_hearersOf T (c : Int) M = some (hrs A S c : Int) := by
  obtain ⟨hA, hS, hC, hs, hL, hF⟩ := h
  have h8 := hA.1.2.1
  have h4 := hA.1.2.2.2.2.1
  have hl := hA.2.1.1
  unfold f_X11_hearersOf
  refine mask_loop (fun n b i => l_X11_hearersOf_4 T (c : Int) M (fun w8 w9 => some w8) n b i) (A 0 4) (fun f => decide (dst A (dS S) (S (6 + f)).toNat c ≤ A 1 0)) (by omega) (fun i n hi => ?_) (fun n => ?_)
  · obtain ⟨q, hq, hq2⟩ := hS.fo hi
    show l_X11_hearersOf_4 T (c : Int) M _ (n + 1) _ (i : Int) = l_X11_hearersOf_4 T (c : Int) M _ n _ _
    have e38 : M 38 i = (q : Int) := (hs.2.1 i hi).trans hq
    rw [l_X11_hearersOf_4, Int.toNat_natCast, e38, hC.2.1.1, hC.1 4 (by decide)]
    refine c_neg (by omega) (c_ite (by omega) (c_bind (h_span hL hA hq2 (by omega)) ?_))
    rw [hq, Int.toNat_natCast]
    by_cases hp : dst A (dS S) q c ≤ A 1 0
    · refine c_neg (fun h => absurd ((cl_lt (by omega)).mp h) (by omega)) (c_ite (by omega) ?_)
      rw [if_pos (decide_eq_true hp)]
    · refine c_pos ((cl_lt (by omega)).mpr (by omega)) (c_ite (by omega) ?_)
      rw [if_neg (by rw [decide_eq_false hp]; decide)]
  · show l_X11_hearersOf_4 T (c : Int) M _ (n + 1) _ ((A 0 4 : Nat) : Int) = _
    rw [l_X11_hearersOf_4, hC.1 4 (by decide)]
    exact c_pos (Int.le_refl _) rfl
def sp_hearers (A : aA) (S : Nat → Int) (v : Int) : Int × Int := gd (inr v (A 0 3)) (hrs A S (S v.toNat).toNat : Int) 1
theorem c_hearers (h : CQ M A S) (v : Int) : opC (f_X11_hearers T v M) M (sp_hearers A S v) := by
  have hh := h
  obtain ⟨hA, hS, hC, hs, hL, hF⟩ := h
  have h3 := hA.1.2.2.2.1
  unfold f_X11_hearers sp_hearers
  refine oC_isVoice hC (fun hn => ?_) (fun v' hv hlt => ?_)
  · rw [gd_neg hn]; exact oC_ref
  · subst hv
    rw [gd_pos (inr_of hlt)]
    obtain ⟨q, hq, hq2⟩ := hS.vo hlt
    refine oC_pos (by omega) ?_
    rw [Int.toNat_natCast, hq, Int.toNat_natCast]
    have e36 : M 36 v' = (q : Int) := (hs.1 v' hlt).1.trans hq
    rw [e36]
    exact oC_bind (h_hearersOf hh hq2) (oC_al (sC.refl M))
theorem m_hearers (h : MD T M A S) (v : Int) : opM (f_X13_hearers T v M) M (sp_hearers A S v) := by
  have hA := h.1
  have hS := h.2.1
  have h8 := hA.1.2.1
  have h3 := hA.1.2.2.2.1
  have h4 := hA.1.2.2.2.2.1
  unfold f_X13_hearers sp_hearers
  refine oM_bind rfl ?_
  have h1 : sM M (aup M 138 0 0) := sM_fl (by omega)
  have hm1 := h.of h1
  refine oM_isVoice hm1 (fun hn => ?_) (fun v' hv hlt => ?_)
  · rw [gd_neg hn]; exact oM_ref h1
  · subst hv
    rw [gd_pos (inr_of hlt)]
    obtain ⟨w, hw⟩ := hm1.has (by omega)
    obtain ⟨q, hq, hq2⟩ := hS.vo hlt
    refine oM_bind (hm1.works hw) ?_
    have hk := hm1.mk hw
    have hsm := h1.trans (sM_works (M := aup M 138 0 0) (A := A) (dr := dS S))
    generalize worksM (aup M 138 0 0) A (dS S) = M1 at hk hsm
    obtain ⟨⟨m1, m2, m3⟩, hL, hx, hv2⟩ := hk
    rw [Int.toNat_natCast, hq, Int.toNat_natCast]
    have key : l_X13_hearers_27 T (v' : Int) M1 (fun w20 w21 => (f_X13_good T w20 M1).bind fun x23 => some (x23.1, x23.2)) FU 0 0 = (f_X13_good T (hrs A S q : Int) M1).bind fun x23 => some (x23.1, x23.2) := by
      refine mask_loop (fun n b i => l_X13_hearers_27 T (v' : Int) M1 (fun w20 w21 => (f_X13_good T w20 M1).bind fun x23 => some (x23.1, x23.2)) n b i) (A 0 4) (fun f => decide (dst A (dS S) (S (6 + f)).toNat q ≤ A 1 0)) (by omega) (fun i n hi => ?_) (fun n => ?_)
      · obtain ⟨p, hp, hp2⟩ := hS.fo hi
        show l_X13_hearers_27 T (v' : Int) M1 _ (n + 1) _ (i : Int) = l_X13_hearers_27 T (v' : Int) M1 _ n _ _
        rw [l_X13_hearers_27, m1, Int.toNat_natCast, m3.1.1, m3.1.2.2.2.2.2.2.2.2.1, Int.toNat_natCast, hx v' (by omega), hq, show (6 + (i : Int)).toNat = 6 + i by omega, hx (6 + i) (by omega), hp, Int.toNat_natCast]
        refine c_ite m2 (c_neg (by omega) (c_ite (by omega) (c_ite (by omega) (c_ite (by omega) (c_bind (g_apart hL (by omega) (by omega)) ?_)))))
        by_cases hle : dst A (dS S) p q ≤ A 1 0
        · refine c_neg (by omega) (c_ite (by omega) ?_)
          rw [if_pos (decide_eq_true hle)]
        · refine c_pos (by omega) (c_ite (by omega) ?_)
          rw [if_neg (by rw [decide_eq_false hle]; decide), aor_0 (msk_lt31 _ (by omega))]
      · show l_X13_hearers_27 T (v' : Int) M1 _ (n + 1) _ ((A 0 4 : Nat) : Int) = _
        rw [l_X13_hearers_27, m1, Int.toNat_natCast, m3.1.2.2.2.2.2.2.2.2.1]
        exact c_ite m2 (c_pos (Int.le_refl _) rfl)
    rw [key]; exact oM_good hsm
/-- the caves within some way -/
def rchd (A : aA) (dr : Nat → Bool) (c much : Nat) : Nat := msk (fun x => decide (dst A dr c x ≤ much)) (A 0 1)
theorem g_reached (hA : WF A) (hm : MV T M w A) (hL : LM M A dr) {c much : Nat} (hc : c < A 0 1) : f_X13_reached T (c : Int) (much : Int) M = some (rchd A dr c much : Int) := by
  have h8 := hA.1.2.1
  obtain ⟨m1, m2, m3⟩ := hm
  unfold f_X13_reached
  refine mask_loop (fun n b i => l_X13_reached_5 T (c : Int) (much : Int) M (fun w8 w9 => some w8) n b i) (A 0 1) (fun x => decide (dst A dr c x ≤ much)) (by omega) (fun i n hi => ?_) (fun n => ?_)
  · show l_X13_reached_5 T (c : Int) (much : Int) M _ (n + 1) _ (i : Int) = l_X13_reached_5 T (c : Int) (much : Int) M _ n _ _
    rw [l_X13_reached_5, m1, Int.toNat_natCast, m3.1.2.2.2.1]
    refine c_ite m2 (c_neg (by omega) (c_bind (g_apart hL (by omega) (by omega)) ?_))
    by_cases hle : dst A dr c i ≤ much
    · refine c_neg (by omega) (c_ite (by omega) ?_)
      rw [if_pos (decide_eq_true hle)]
    · refine c_pos (by omega) (c_ite (by omega) ?_)
      rw [if_neg (by rw [decide_eq_false hle]; decide), aor_0 (msk_lt31 _ (by omega))]
  · show l_X13_reached_5 T (c : Int) (much : Int) M _ (n + 1) _ ((A 0 1 : Nat) : Int) = _
    rw [l_X13_reached_5, m1, Int.toNat_natCast, m3.1.2.2.2.1]
    exact c_ite m2 (c_pos (Int.le_refl _) rfl)
def sp_heardFrom (A : aA) (S : Nat → Int) (c : Int) : Int × Int := gd (inr c (A 0 1)) (rchd A (dS S) c.toNat (A 1 0) : Int) 1
theorem c_heardFrom (h : CQ M A S) (c : Int) : opC (f_X11_heardFrom T c M) M (sp_heardFrom A S c) := by
  obtain ⟨hA, hS, hC, hs, hL, hF⟩ := h
  have h8 := hA.1.2.1
  have hl := hA.2.1.1
  unfold f_X11_heardFrom sp_heardFrom
  refine oC_isCave hC (fun hn => ?_) (fun c' hc hlt => ?_)
  · rw [gd_neg hn]; exact oC_ref
  · subst hc
    rw [gd_pos (inr_of hlt), Int.toNat_natCast]
    have key : l_X11_heardFrom_18 T (c' : Int) M (fun w10 w11 => (f_X11_allow T w10 M).bind fun x13 => some (x13.1, x13.2)) FU 0 0 = (f_X11_allow T (rchd A (dS S) c' (A 1 0) : Int) M).bind fun x13 => some (x13.1, x13.2) := by
      refine mask_loop (fun n b i => l_X11_heardFrom_18 T (c' : Int) M (fun w10 w11 => (f_X11_allow T w10 M).bind fun x13 => some (x13.1, x13.2)) n b i) (A 0 1) (fun x => decide (dst A (dS S) c' x ≤ A 1 0)) (by omega) (fun i n hi => ?_) (fun n => ?_)
      · show l_X11_heardFrom_18 T (c' : Int) M _ (n + 1) _ (i : Int) = l_X11_heardFrom_18 T (c' : Int) M _ n _ _
        rw [l_X11_heardFrom_18, hC.2.1.1, hC.1 1 (by decide)]
        refine c_neg (by omega) (c_bind (h_span hL hA hlt (by omega)) ?_)
        by_cases hp : dst A (dS S) c' i ≤ A 1 0
        · refine c_neg (fun h => absurd ((cl_lt (by omega)).mp h) (by omega)) (c_ite (by omega) ?_)
          rw [if_pos (decide_eq_true hp)]
        · refine c_pos ((cl_lt (by omega)).mpr (by omega)) (c_ite (by omega) ?_)
          rw [if_neg (by rw [decide_eq_false hp]; decide)]
      · show l_X11_heardFrom_18 T (c' : Int) M _ (n + 1) _ ((A 0 1 : Nat) : Int) = _
        rw [l_X11_heardFrom_18, hC.1 1 (by decide)]
        exact c_pos (Int.le_refl _) rfl
    rw [key]
    exact oC_al (sC.refl M)
theorem m_heardFrom (h : MD T M A S) (c : Int) : opM (f_X13_heardFrom T c M) M (sp_heardFrom A S c) := by
  have hA := h.1
  unfold f_X13_heardFrom sp_heardFrom
  refine oM_bind rfl ?_
  have h1 : sM M (aup M 138 0 0) := sM_fl (by omega)
  have hm1 := h.of h1
  refine oM_isCave hm1 (fun hn => ?_) (fun c' hc hlt => ?_)
  · rw [gd_neg hn]; exact oM_ref h1
  · subst hc
    rw [gd_pos (inr_of hlt), Int.toNat_natCast]
    obtain ⟨w, hw⟩ := hm1.has (by omega)
    refine oM_bind (hm1.works hw) ?_
    have hk := hm1.mk hw
    have hsm := h1.trans (sM_works (M := aup M 138 0 0) (A := A) (dr := dS S))
    generalize worksM (aup M 138 0 0) A (dS S) = M1 at hk hsm
    obtain ⟨hm, hL, hx, hv2⟩ := hk
    show opM (if okW T (M1 138 3) then (f_X13_reached T (c' : Int) (M1 (M1 138 3).toNat 0) M1).bind fun x11 => (f_X13_good T x11 M1).bind fun x13 => some (x13.1, x13.2) else none) M _
    rw [hm.1, Int.toNat_natCast, hm.2.2.1.1]
    exact oM_pos hm.2.1 (oM_bind (g_reached hA hm hL hlt) (oM_good hsm))
/-- folk: where -/
def sp_folk (A : aA) (S : Nat → Int) (f : Int) : Int × Int := gd (inr f (A 0 4)) (S (6 + f.toNat)) 1
theorem c_folk (h : CQ M A S) (f : Int) : opC (f_X11_folk T f M) M (sp_folk A S f) := by
  obtain ⟨hA, hS, hC, hs, hL, hF⟩ := h
  have h4 := hA.1.2.2.2.2.1
  unfold f_X11_folk sp_folk
  refine oC_isFolk hC (fun hn => ?_) (fun c' hc hlt => ?_)
  · rw [gd_neg hn]; exact oC_ref
  · subst hc
    rw [gd_pos (inr_of hlt), Int.toNat_natCast, show M 38 c' = S (6 + c') from hs.2.1 c' hlt]
    exact oC_pos (by omega) (oC_al (sC.refl M))
theorem m_folk (h : MD T M A S) (f : Int) : opM (f_X13_folk T f M) M (sp_folk A S f) := by
  have hA := h.1
  have h4 := hA.1.2.2.2.2.1
  unfold f_X13_folk sp_folk
  refine oM_bind rfl ?_
  have h1 : sM M (aup M 138 0 0) := sM_fl (by omega)
  have hm1 := h.of h1
  refine oM_isFolk hm1 (fun hn => ?_) (fun c' hc hlt => ?_)
  · rw [gd_neg hn]; exact oM_ref h1
  · subst hc
    rw [gd_pos (inr_of hlt), Int.toNat_natCast, show (6 + (c' : Int)).toNat = 6 + c' by omega, hm1.2.2.2 (6 + c') (by omega)]
    exact oM_pos (by omega) (oM_pos (by omega) (oM_good h1))
/-- a voice: kind, where, where from -/
def sp_voice (A : aA) (S : Nat → Int) (v what : Int) : Int × Int := gd (inr v (A 0 3) ∧ 0 ≤ what ∧ what ≤ 2) (if what = 0 then (A 5 v.toNat : Int) else if what = 1 then S v.toNat else S (3 + v.toNat)) 1
theorem c_voice (h : CQ M A S) (v what : Int) : opC (f_X11_voice T v what M) M (sp_voice A S v what) := by
  obtain ⟨hA, hS, hC, hs, hL, hF⟩ := h
  have h4 := hA.1.2.2.2.1
  unfold f_X11_voice sp_voice
  refine oC_isVoice hC (fun hn => ?_) (fun c' hc hlt => ?_)
  · rw [gd_neg (fun h => hn h.1)]; exact oC_ref
  · subst hc
    rw [Int.toNat_natCast, show M 36 c' = S c' from (hs.1 c' hlt).1, show M 37 c' = S (3 + c') from (hs.1 c' hlt).2, (hC.2.2.2.2.1 c' hlt).1]
    by_cases hw1 : what < 0
    · rw [gd_neg (by omega)]; exact oC_pos hw1 oC_ref
    · refine oC_neg hw1 ?_
      by_cases hw2 : what ≤ 2
      · rw [gd_pos ⟨inr_of hlt, by omega, hw2⟩]
        generalize hv : (if what = 0 then (A 5 c' : Int) else if what = 1 then S c' else S (3 + c')) = val
        refine oC_pos hw2 ?_
        by_cases w0 : what = 0
        · rw [if_pos w0] at hv; subst hv; exact oC_pos w0 (oC_pos (by omega) (oC_al (sC.refl M)))
        · rw [if_neg w0] at hv
          refine oC_neg w0 ?_
          by_cases w1 : what = 1
          · rw [if_pos w1] at hv; subst hv; exact oC_pos w1 (oC_pos (by omega) (oC_al (sC.refl M)))
          · rw [if_neg w1] at hv; subst hv; exact oC_neg w1 (oC_pos (by omega) (oC_al (sC.refl M)))
      · rw [gd_neg (by omega)]; exact oC_neg hw2 oC_ref
theorem oM_in {v a b : Int} {x y : Option (Int × aM)} {r : Int × Int} (h1 : ¬ (a ≤ v ∧ v ≤ b) → opM x M0 r) (h2 : a ≤ v ∧ v ≤ b → opM y M0 r) : opM ((f_X13_in T v a b M).bind fun z => if z = 0 then x else y) M0 r := by
  by_cases hp : a ≤ v ∧ v ≤ b
  · refine oM_bind (v := 1) ?_ (oM_neg (by decide) (h2 hp))
    unfold f_X13_in
    rw [if_neg (by omega), if_neg (by omega)]
  · refine oM_bind (v := 0) ?_ (oM_pos rfl (h1 hp))
    unfold f_X13_in
    by_cases h : v < a
    · rw [if_pos h]
    · rw [if_neg h, if_pos (by omega)]
theorem m_voice (h : MD T M A S) (v what : Int) : opM (f_X13_voice T v what M) M (sp_voice A S v what) := by
  have hA := h.1
  have h4 := hA.1.2.2.2.1
  unfold f_X13_voice sp_voice
  refine oM_bind rfl ?_
  have h1 : sM M (aup M 138 0 0) := sM_fl (by omega)
  have hm1 := h.of h1
  refine oM_isVoice hm1 (fun hn => ?_) (fun c' hc hlt => ?_)
  · rw [gd_neg (fun h => hn h.1)]; exact oM_ref h1
  · subst hc
    obtain ⟨w, m1, m2, m3⟩ := hm1.has (by omega)
    refine oM_in (fun hn => ?_) (fun hw => ?_)
    · rw [gd_neg (fun h => hn h.2)]; exact oM_ref h1
    · rw [gd_pos ⟨inr_of hlt, hw⟩, Int.toNat_natCast, m1, Int.toNat_natCast, (m3.2.2.1 c' hlt).1, show (3 + (c' : Int)).toNat = 3 + c' by omega, hm1.2.2.2 c' (by omega), hm1.2.2.2 (3 + c') (by omega)]
      generalize hv : (if what = 0 then (A 5 c' : Int) else if what = 1 then S c' else S (3 + c')) = val
      by_cases w0 : what = 0
      · rw [if_pos w0] at hv; subst hv; exact oM_pos w0 (oM_pos m2 (oM_pos (by omega) (oM_good h1)))
      · rw [if_neg w0] at hv
        refine oM_neg w0 ?_
        by_cases w1 : what = 1
        · rw [if_pos w1] at hv; subst hv; exact oM_pos w1 (oM_pos (by omega) (oM_good h1))
        · rw [if_neg w1] at hv; subst hv; exact oM_neg w1 (oM_pos (by omega) (oM_pos (by omega) (oM_good h1)))
/-- a way: ends, length, wet -/
def sp_way (A : aA) (S : Nat → Int) (k what : Int) : Int × Int := gd (inr k (A 0 2) ∧ 0 ≤ what ∧ what ≤ 3) (if what = 0 then (A 2 k.toNat : Int) else if what = 1 then (A 3 k.toNat : Int) else if what = 2 then (A 4 k.toNat : Int) else bI ((S 10).toNat.testBit k.toNat)) 1
theorem c_way (h : CQ M A S) (v what : Int) : opC (f_X11_way T v what M) M (sp_way A S v what) := by
  obtain ⟨hA, hS, hC, hs, hL, hF⟩ := h
  have h4 := hA.1.2.2.1
  have hlt31 := WS.lt hA hS
  unfold f_X11_way sp_way
  refine oC_isWay hC (fun hn => ?_) (fun c' hc hlt => ?_)
  · rw [gd_neg (fun h => hn h.1)]; exact oC_ref
  · subst hc
    obtain ⟨q1, q2, q3⟩ := hC.2.2.1 c' hlt
    have e35 : M 35 3 = (((S 10).toNat : Nat) : Int) := by rw [hs.2.2.1]; have := hS.2.2.1.1; omega
    rw [Int.toNat_natCast, q1, q2, q3, e35]
    by_cases hw1 : what < 0
    · rw [gd_neg (by omega)]; exact oC_pos hw1 oC_ref
    · refine oC_neg hw1 ?_
      by_cases hw2 : what ≤ 3
      · rw [gd_pos ⟨inr_of hlt, by omega, hw2⟩]
        generalize hv : (if what = 0 then (A 2 c' : Int) else if what = 1 then (A 3 c' : Int) else if what = 2 then (A 4 c' : Int) else bI ((S 10).toNat.testBit c')) = val
        refine oC_pos hw2 ?_
        by_cases w0 : what = 0
        · rw [if_pos w0] at hv; subst hv; exact oC_pos w0 (oC_pos (by omega) (oC_al (sC.refl M)))
        · rw [if_neg w0] at hv
          refine oC_neg w0 ?_
          by_cases w1 : what = 1
          · rw [if_pos w1] at hv; subst hv; exact oC_pos w1 (oC_pos (by omega) (oC_al (sC.refl M)))
          · rw [if_neg w1] at hv
            refine oC_neg w1 ?_
            by_cases w2 : what = 2
            · rw [if_pos w2] at hv; subst hv; exact oC_pos w2 (oC_pos (by omega) (oC_al (sC.refl M)))
            · rw [if_neg w2] at hv
              subst hv
              refine oC_neg w2 (oC_bind (h_hasBit hlt31 (by omega)) ?_)
              cases (S 10).toNat.testBit c'
              · exact oC_pos rfl (oC_al (sC.refl M))
              · exact oC_neg (by decide) (oC_al (sC.refl M))
      · rw [gd_neg (by omega)]; exact oC_neg hw2 oC_ref
theorem ahas_bI {s k : Nat} (hs : s < 2147483648) (hk : k < 32) : aand (ashr (s : Int) (k : Int)) 1 = bI (s.testBit k) := ahas hs hk
theorem m_way (h : MD T M A S) (v what : Int) : opM (f_X13_way T v what M) M (sp_way A S v what) := by
  have hA := h.1
  have hS := h.2.1
  have h4 := hA.1.2.2.1
  have hlt31 := WS.lt hA hS
  unfold f_X13_way sp_way
  refine oM_bind rfl ?_
  have h1 : sM M (aup M 138 0 0) := sM_fl (by omega)
  have hm1 := h.of h1
  refine oM_isWay hm1 (fun hn => ?_) (fun c' hc hlt => ?_)
  · rw [gd_neg (fun h => hn h.1)]; exact oM_ref h1
  · subst hc
    obtain ⟨w, m1, m2, m3⟩ := hm1.has (by omega)
    obtain ⟨q1, q2, q3⟩ := m3.2.1 c' hlt
    refine oM_in (fun hn => ?_) (fun hw => ?_)
    · rw [gd_neg (fun h => hn h.2)]; exact oM_ref h1
    · have e10 : (aup M 138 0 0) 140 10 = (((S 10).toNat : Nat) : Int) := by rw [hm1.2.2.2 10 (by omega)]; have := hS.2.2.1.1; omega
      rw [gd_pos ⟨inr_of hlt, hw⟩, Int.toNat_natCast, m1, Int.toNat_natCast, q1, q2, q3, e10, ahas_bI hlt31 (by omega)]
      generalize hv : (if what = 0 then (A 2 c' : Int) else if what = 1 then (A 3 c' : Int) else if what = 2 then (A 4 c' : Int) else bI ((S 10).toNat.testBit c')) = val
      by_cases w0 : what = 0
      · rw [if_pos w0] at hv; subst hv; exact oM_pos w0 (oM_pos m2 (oM_pos (by omega) (oM_good h1)))
      · rw [if_neg w0] at hv
        refine oM_neg w0 ?_
        by_cases w1 : what = 1
        · rw [if_pos w1] at hv; subst hv; exact oM_pos w1 (oM_pos m2 (oM_pos (by omega) (oM_good h1)))
        · rw [if_neg w1] at hv
          refine oM_neg w1 ?_
          by_cases w2 : what = 2
          · rw [if_pos w2] at hv; subst hv; exact oM_pos w2 (oM_pos m2 (oM_pos (by omega) (oM_good h1)))
          · rw [if_neg w2] at hv; subst hv; exact oM_neg w2 (oM_good h1)
/-- an echo -/
def sp_echo (A : aA) (S : Nat → Int) (v c : Int) : Int × Int := gd (inr v (A 0 3) ∧ inr c (A 0 1)) (if dst A (dS S) c.toNat (S v.toNat).toNat < 9999 then 2 * (dst A (dS S) c.toNat (S v.toNat).toNat : Int) else -2) 1
theorem c_echo (h : CQ M A S) (v c : Int) : opC (f_X11_echo T v c M) M (sp_echo A S v c) := by
  obtain ⟨hA, hS, hC, hs, hL, hF⟩ := h
  have h8 := hA.1.2.1
  have h3 := hA.1.2.2.2.1
  unfold f_X11_echo sp_echo
  refine oC_isVoice hC (fun hn => ?_) (fun v' hv hlt => ?_)
  · rw [gd_neg (fun h => hn h.1)]; exact oC_ref
  · refine oC_isCave hC (fun hn => ?_) (fun c' hc hlt2 => ?_)
    · rw [gd_neg (fun h => hn h.2)]; exact oC_ref
    · subst hv hc
      obtain ⟨q, hq, hq2⟩ := hS.vo hlt
      have e36 : M 36 v' = (q : Int) := (hs.1 v' hlt).1.trans hq
      rw [gd_pos ⟨inr_of hlt, inr_of hlt2⟩, Int.toNat_natCast, Int.toNat_natCast, hq, Int.toNat_natCast, e36]
      refine oC_pos (by omega) (oC_bind (h_span hL hA hlt2 (by omega)) ?_)
      have hd := dst_140 (dr := dS S) (b := q) hA hlt2
      by_cases hf : dst A (dS S) c' q < 9999
      · have := hd hf
        rw [if_pos hf]
        unfold cl
        rw [if_pos hf]
        refine oC_pos (by omega) (oC_bind (v := 2 * (dst A (dS S) c' q : Int)) ?_ (oC_al (sC.refl M)))
        unfold f_X11_orNo
        rw [if_pos (by omega)]
      · rw [if_neg hf]
        unfold cl
        rw [if_neg hf]
        exact oC_pos (by omega) (oC_bind (v := -2) rfl (oC_al (sC.refl M)))
theorem m_echo (h : MD T M A S) (v c : Int) : opM (f_X13_echo T v c M) M (sp_echo A S v c) := by
  have hA := h.1
  have hS := h.2.1
  have h8 := hA.1.2.1
  have h3 := hA.1.2.2.2.1
  unfold f_X13_echo sp_echo
  refine oM_bind rfl ?_
  have h1 : sM M (aup M 138 0 0) := sM_fl (by omega)
  have hm1 := h.of h1
  refine oM_isVoice hm1 (fun hn => ?_) (fun v' hv hlt => ?_)
  · rw [gd_neg (fun h => hn h.1)]; exact oM_ref h1
  · refine oM_isCave hm1 (fun hn => ?_) (fun c' hc hlt2 => ?_)
    · rw [gd_neg (fun h => hn h.2)]; exact oM_ref h1
    · subst hv hc
      obtain ⟨q, hq, hq2⟩ := hS.vo hlt
      obtain ⟨w, hw⟩ := hm1.has (by omega)
      refine oM_bind (hm1.works hw) ?_
      have hk := hm1.mk hw
      have hsm := h1.trans (sM_works (M := aup M 138 0 0) (A := A) (dr := dS S))
      generalize worksM (aup M 138 0 0) A (dS S) = M1 at hk hsm
      obtain ⟨hm, hL, hx, hv2⟩ := hk
      rw [gd_pos ⟨inr_of hlt, inr_of hlt2⟩, Int.toNat_natCast, Int.toNat_natCast, hq, Int.toNat_natCast]
      show opM (if 0 ≤ (v' : Int) ∧ (v' : Int) < 12 then (f_X13_apart T (c' : Int) (M1 141 v') M1).bind _ else none) M _
      rw [hx v' (by omega), hq]
      refine oM_pos (by omega) (oM_bind (g_apart hL (by omega) (by omega)) ?_)
      have hle := dst_le (dr := dS S) hA c' q
      by_cases hf : dst A (dS S) c' q < 9999
      · rw [if_pos hf]
        exact oM_pos (by omega) (oM_pos (by omega) (oM_good hsm))
      · rw [if_neg hf]
        exact oM_neg (by omega) (oM_good hsm)
end Opb
