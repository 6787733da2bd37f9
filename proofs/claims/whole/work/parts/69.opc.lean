/-! ===== cave, called, farthest ===== -/
section Opc
variable {A : aA} {S : Nat → Int} {T e w : Nat} {M M0 : aM} {dr : Nat → Bool}
/-- where a voice is behind a call -/
def cst (A : aA) (dr : Nat → Bool) (kind c t : Nat) : Nat := if kind = 0 ∨ c = t ∨ ¬ dst A dr c t ≤ A 1 0 then c else fst (stp A dr c t) (A 0 1)
theorem cst_lt (hA : WF A) {kind c t : Nat} (hc : c < A 0 1) : cst A dr kind c t < A 0 1 := by
  unfold cst
  split
  · exact hc
  · rename_i h
    have hl := hA.2.1.1
    exact (stp_ex hA (fun e => h (Or.inr (Or.inl e))) (by
      have : dst A dr c t ≤ A 1 0 := Classical.byContradiction fun h2 => h (Or.inr (Or.inr h2))
      omega)).1
theorem towd_pos (hA : WF A) {c t : Nat} (h1 : c ≠ t) (h2 : dst A dr c t ≤ A 1 0) : towd A dr c t = ((fst (stp A dr c t) (A 0 1) : Nat) : Int) := by
  have hl := hA.2.1.1
  unfold towd
  rw [if_neg]
  rintro (h | h)
  · exact h1 h
  · omega
theorem h_callStep (hA : WF A) (hC : CT M A) (hL : LD M 39 A dr) {kind c t : Nat} (hc : c < A 0 1) (ht : t < A 0 1) : f_X1_callStep T (kind : Int) (c : Int) (t : Int) M = some (cst A dr kind c t : Int) := by
  have h8 := hA.1.2.1
  have hl := hA.2.1.1
  unfold f_X1_callStep
  by_cases h0 : kind = 0
  · refine c_pos (by omega) ?_
    unfold cst; rw [if_pos (Or.inl h0)]
  · refine c_neg (by omega) ?_
    by_cases h1 : c = t
    · refine c_pos (by omega) ?_
      unfold cst; rw [if_pos (Or.inr (Or.inl h1))]
    · refine c_neg (by omega) (c_bind (h_span hL hA hc (by omega)) ?_)
      rw [hC.2.1.1]
      by_cases h2 : dst A dr c t ≤ A 1 0
      · refine c_pos ((cl_le (by omega)).mpr h2) (c_bind (h_firstStep hC hL hA hc ht) ?_)
        rw [towd_pos hA h1 h2]
        refine c_pos (by omega) ?_
        unfold cst
        rw [if_neg]
        rintro (h | h | h)
        · exact h0 h
        · exact h1 h
        · exact h h2
      · refine c_neg (fun h => h2 ((cl_le (by omega)).mp h)) ?_
        unfold cst; rw [if_pos (Or.inr (Or.inr h2))]
theorem g_calledTo (hA : WF A) (hm : MV T M w A) (hL : LM M A dr) {kind c t : Nat} (hc : c < A 0 1) (ht : t < A 0 1) : f_X13_calledTo T (kind : Int) (c : Int) (t : Int) M = some (cst A dr kind c t : Int) := by
  have h8 := hA.1.2.1
  have hl := hA.2.1.1
  unfold f_X13_calledTo
  by_cases h0 : kind = 0
  · refine c_pos (by omega) ?_
    unfold cst; rw [if_pos (Or.inl h0)]
  · refine c_neg (by omega) ?_
    by_cases h1 : c = t
    · refine c_pos (by omega) ?_
      unfold cst; rw [if_pos (Or.inr (Or.inl h1))]
    · refine c_neg (by omega) (c_bind (g_apart hL (by omega) (by omega)) ?_)
      rw [hm.1, Int.toNat_natCast, hm.2.2.1.1]
      refine c_ite hm.2.1 ?_
      by_cases h2 : dst A dr c t ≤ A 1 0
      · refine c_pos (by omega) (c_bind (g_towards hm hL hA hc ht) ?_)
        rw [towd_pos hA h1 h2]
        unfold cst
        rw [if_neg]
        rintro (h | h | h)
        · exact h0 h
        · exact h1 h
        · exact h h2
      · refine c_neg (by omega) ?_
        unfold cst; rw [if_pos (Or.inr (Or.inr h2))]
def sp_called (A : aA) (S : Nat → Int) (v c : Int) : Int × Int := gd (inr v (A 0 3) ∧ inr c (A 0 1)) (cst A (dS S) (A 5 v.toNat) (S v.toNat).toNat c.toNat : Int) 1
theorem c_called (h : CQ M A S) (v c : Int) : opC (f_X11_called T v c M) M (sp_called A S v c) := by
  obtain ⟨hA, hS, hC, hs, hL, hF⟩ := h
  have h3 := hA.1.2.2.2.1
  unfold f_X11_called sp_called
  refine oC_isVoice hC (fun hn => ?_) (fun v' hv hlt => ?_)
  · rw [gd_neg (fun h => hn h.1)]; exact oC_ref
  · refine oC_isCave hC (fun hn => ?_) (fun c' hc hlt2 => ?_)
    · rw [gd_neg (fun h => hn h.2)]; exact oC_ref
    · subst hv hc
      obtain ⟨q, hq, hq2⟩ := hS.vo hlt
      have e36 : M 36 v' = (q : Int) := (hs.1 v' hlt).1.trans hq
      rw [gd_pos ⟨inr_of hlt, inr_of hlt2⟩, Int.toNat_natCast, Int.toNat_natCast, hq, Int.toNat_natCast, e36, (hC.2.2.2.2.1 v' hlt).1]
      exact oC_pos (by omega) (oC_bind (h_callStep hA hC hL hq2 hlt2) (oC_al (sC.refl M)))
theorem m_called (h : MD T M A S) (v c : Int) : opM (f_X13_called T v c M) M (sp_called A S v c) := by
  have hA := h.1
  have hS := h.2.1
  have h3 := hA.1.2.2.2.1
  unfold f_X13_called sp_called
  refine oM_bind rfl ?_
  have h1 : sM M (aup M 138 0 0) := sM_fl (by omega)
  have hm1 := h.of h1
  refine oM_isVoice hm1 (fun hn => ?_) (fun v' hv hlt => ?_)
  · rw [gd_neg (fun h => hn h.1)]; exact oM_ref h1
  · refine oM_isCave hm1 (fun hn => ?_) (fun c' hc hlt2 => ?_)
    · rw [gd_neg (fun h => hn h.2)]; exact oM_ref h1
    · subst hv hc
      obtain ⟨q, hq, hq2⟩ := hS.vo hlt
      obtain ⟨w, hw⟩ := hm1.has (by omega)
      refine oM_bind (hm1.works hw) ?_
      have hk := hm1.mk hw
      have hsm := h1.trans (sM_works (M := aup M 138 0 0) (A := A) (dr := dS S))
      generalize worksM (aup M 138 0 0) A (dS S) = M1 at hk hsm
      obtain ⟨hm, hL, hx, hv2⟩ := hk
      rw [gd_pos ⟨inr_of hlt, inr_of hlt2⟩, Int.toNat_natCast, Int.toNat_natCast, hq, Int.toNat_natCast]
      show opM (if okW T (M1 138 3) then if 0 ≤ (v' : Int) ∧ (v' : Int) < 3 then if 0 ≤ (v' : Int) ∧ (v' : Int) < 12 then (f_X13_calledTo T (M1 ((M1 138 3).toNat + 4) v') (M1 141 v') (c' : Int) M1).bind _ else none else none else none) M _
      rw [hx v' (by omega), hq, hm.1, Int.toNat_natCast, (hm.2.2.2.2.1 v' hlt).1]
      exact oM_pos hm.2.1 (oM_pos (by omega) (oM_pos (by omega) (oM_bind (g_calledTo hA hm hL hq2 hlt2) (oM_good hsm))))
/-- farthest -/
def lst (A : aA) (dr : Nat → Bool) (c : Nat) : Nat → Nat
  | 0 => c
  | i + 1 => if dst A dr c i < 9999 ∧ dst A dr c (lst A dr c i) < dst A dr c i then i else lst A dr c i
theorem lst_or (c : Nat) : ∀ i, lst A dr c i = c ∨ lst A dr c i < i
  | 0 => Or.inl rfl
  | i + 1 => by
    have ih := lst_or c i
    unfold lst
    split
    · right; omega
    · rcases ih with h | h
      · exact Or.inl h
      · right; omega
theorem dst_zero (hA : WF A) {c t : Nat} (h : dst A dr c t = 0) : t = c := by
  apply Classical.byContradiction
  intro hne
  obtain ⟨k, x, hk, hd, hj, hx⟩ := isR_pred (dst_isQ hA dr c) hne (by omega)
  have := hA.len k hk
  omega
def sp_farthest (A : aA) (S : Nat → Int) (c : Int) : Int × Int := gd (inr c (A 0 1)) (lst A (dS S) c.toNat (A 0 1) : Int) 1
theorem c_farthest (h : CQ M A S) (c : Int) : opC (f_X11_farthest T c M) M (sp_farthest A S c) := by
  obtain ⟨hA, hS, hC, hs, hL, hF⟩ := h
  have h8 := hA.1.2.1
  unfold f_X11_farthest sp_farthest
  refine oC_isCave hC (fun hn => ?_) (fun c' hc hlt => ?_)
  · rw [gd_neg hn]; exact oC_ref
  · subst hc
    rw [gd_pos (inr_of hlt), Int.toNat_natCast]
    refine oC_bind (v := (lst A (dS S) c' (A 0 1) : Int)) ?_ (oC_al (sC.refl M))
    unfold f_X5_lastFrom
    refine for_until (fun i n => l_X5_lastFrom_4 T 39 (c' : Int) M (fun w13 w14 => some w13) n ((lst A (dS S) c' i : Nat) : Int) (i : Int)) (A 0 1) (fun i n hi => ?_) (fun n => ?_) (by omega)
    · have hlo := lst_or (A := A) (dr := dS S) c' i
      show l_X5_lastFrom_4 T 39 (c' : Int) M _ (n + 1) _ (i : Int) = l_X5_lastFrom_4 T 39 (c' : Int) M _ n ((lst A (dS S) c' (i + 1) : Nat) : Int) ((i + 1 : Nat) : Int)
      have e1 : lst A (dS S) c' (i + 1) = if dst A (dS S) c' i < 9999 ∧ dst A (dS S) c' (lst A (dS S) c' i) < dst A (dS S) c' i then i else lst A (dS S) c' i := rfl
      rw [l_X5_lastFrom_4, hC.1 1 (by decide)]
      have hle := dst_le (dr := dS S) hA c' i
      have hle2 := dst_le (dr := dS S) hA c' (lst A (dS S) c' i)
      refine c_neg (by omega) (c_bind (h_span hL hA hlt (by omega)) ?_)
      by_cases hf : dst A (dS S) c' i < 9999
      · refine c_neg (by unfold cl; rw [if_pos hf]; omega) (c_bind (h_span hL hA hlt (by omega)) (c_bind (h_span hL hA hlt (by omega)) ?_))
        by_cases hg : dst A (dS S) c' (lst A (dS S) c' i) < dst A (dS S) c' i
        · rw [e1.trans (if_pos ⟨hf, hg⟩)]
          exact c_neg (by unfold cl; rw [if_pos hf, if_pos (by omega)]; omega) (c_ite (by omega) rfl)
        · rw [e1.trans (if_neg (fun h => hg h.2))]
          refine c_pos ?_ (c_ite (by omega) rfl)
          unfold cl; rw [if_pos hf]; split <;> omega
      · rw [e1.trans (if_neg (fun h => hf h.1))]
        exact c_pos (by unfold cl; rw [if_neg hf]; omega) (c_ite (by omega) rfl)
    · show l_X5_lastFrom_4 T 39 (c' : Int) M _ (n + 1) _ ((A 0 1 : Nat) : Int) = _
      rw [l_X5_lastFrom_4, hC.1 1 (by decide)]
      exact c_pos (Int.le_refl _) rfl
theorem m_farthest (h : MD T M A S) (c : Int) : opM (f_X13_farthest T c M) M (sp_farthest A S c) := by
  have hA := h.1
  have h8 := hA.1.2.1
  unfold f_X13_farthest sp_farthest
  refine oM_bind rfl ?_
  have h1 : sM M (aup M 138 0 0) := sM_fl (by omega)
  have hm1 := h.of h1
  refine oM_isCave hm1 (fun hn => ?_) (fun c' hc hlt => ?_)
  · rw [gd_neg hn]; exact oM_ref h1
  · subst hc
    rw [gd_pos (inr_of hlt), Int.toNat_natCast]
    obtain ⟨w, hw⟩ := hm1.has (by omega)
    refine oM_bind (hm1.works hw) ?_
    have hk := hm1.mk hw
    have hsm := h1.trans (sM_works (M := aup M 138 0 0) (A := A) (dr := dS S))
    generalize worksM (aup M 138 0 0) A (dS S) = M1 at hk hsm
    obtain ⟨⟨m1, m2, m3⟩, hL, hx, hv2⟩ := hk
    have key : l_X13_farthest_27 T (c' : Int) M1 (fun w27 w28 => (f_X13_good T w27 M1).bind fun x31 => some (x31.1, x31.2)) FU (c' : Int) 0 = (f_X13_good T (lst A (dS S) c' (A 0 1) : Int) M1).bind fun x31 => some (x31.1, x31.2) := by
      refine for_until (fun i n => l_X13_farthest_27 T (c' : Int) M1 (fun w27 w28 => (f_X13_good T w27 M1).bind fun x31 => some (x31.1, x31.2)) n ((lst A (dS S) c' i : Nat) : Int) (i : Int)) (A 0 1) (fun i n hi => ?_) (fun n => ?_) (by omega)
      · have hlo := lst_or (A := A) (dr := dS S) c' i
        show l_X13_farthest_27 T (c' : Int) M1 _ (n + 1) _ (i : Int) = l_X13_farthest_27 T (c' : Int) M1 _ n ((lst A (dS S) c' (i + 1) : Nat) : Int) ((i + 1 : Nat) : Int)
        have e1 : lst A (dS S) c' (i + 1) = if dst A (dS S) c' i < 9999 ∧ dst A (dS S) c' (lst A (dS S) c' i) < dst A (dS S) c' i then i else lst A (dS S) c' i := rfl
        rw [l_X13_farthest_27, m1, Int.toNat_natCast, m3.1.2.2.2.1]
        refine c_ite m2 (c_neg (by omega) (c_bind (g_apart hL (by omega) (by omega)) ?_))
        by_cases hf : dst A (dS S) c' i < 9999
        · refine c_neg (by omega) (c_bind (g_apart hL (by omega) (by omega)) ?_)
          by_cases hg : dst A (dS S) c' (lst A (dS S) c' i) < dst A (dS S) c' i
          · rw [e1.trans (if_pos ⟨hf, hg⟩)]
            exact c_pos (by omega) (c_ite (by omega) rfl)
          · rw [e1.trans (if_neg (fun h => hg h.2))]
            refine c_neg (by omega) (c_bind (g_apart hL (by omega) (by omega)) ?_)
            by_cases he : dst A (dS S) c' i = dst A (dS S) c' (lst A (dS S) c' i)
            · refine c_pos (by omega) ?_
              refine c_pos ?_ (c_ite (by omega) rfl)
              rcases hlo with h | h
              · rw [h, dst_self hA] at he
                have := dst_zero hA he
                rw [h]; omega
              · omega
            · exact c_neg (by omega) (c_ite (by omega) rfl)
        · rw [e1.trans (if_neg (fun h => hf h.1))]
          exact c_pos (by omega) (c_ite (by omega) rfl)
      · show l_X13_farthest_27 T (c' : Int) M1 _ (n + 1) _ ((A 0 1 : Nat) : Int) = _
        rw [l_X13_farthest_27, m1, Int.toNat_natCast, m3.1.2.2.2.1]
        exact c_ite m2 (c_pos (Int.le_refl _) rfl)
    show opM (l_X13_farthest_27 T (c' : Int) M1 (fun w27 w28 => (f_X13_good T w27 M1).bind fun x31 => some (x31.1, x31.2)) FU (c' : Int) 0) M _
    rw [key]; exact oM_good hsm
/-- a cave -/
def vsp (A : aA) (S : Nat → Int) (c what : Nat) : Int := if what = 0 then bI ((A 1 3).testBit c) else if what = 1 then (nr A (dS S) c : Int) else if what = 2 then (msk (fun k => decide (S k = (c : Int))) (A 0 3) : Int) else if what = 3 then (msk (fun f => decide (S (6 + f) = (c : Int))) (A 0 4) : Int) else (cntp (fun k => decide (A 2 k = c) || decide (A 3 k = c)) (A 0 2) : Int)
def sp_cave (A : aA) (S : Nat → Int) (c what : Int) : Int × Int := gd (inr c (A 0 1) ∧ 0 ≤ what ∧ what ≤ 4) (vsp A S c.toNat what.toNat) 1
theorem h_bitsIn {r N len c : Nat} (ha : ash r = (100, len)) (hr : r < 154) (hN : N ≤ len) (h31 : N < 31) {p : Nat → Int} (hp : ∀ k, k < N → M r k = p k) : f_X11_bitsIn T r (N : Int) (c : Int) M = some (msk (fun k => decide (p k = (c : Int))) N : Int) := by
  unfold f_X11_bitsIn
  refine c_ite ⟨by rw [ha], hr⟩ ?_
  have e : (ash r).2 = len := by rw [ha]
  refine mask_loop (fun n b i => l_X11_bitsIn_5 T r (N : Int) (c : Int) M (fun w7 w8 => some w7) n b i) N (fun k => decide (p k = (c : Int))) h31 (fun i n hi => ?_) (fun n => ?_)
  · show l_X11_bitsIn_5 T r (N : Int) (c : Int) M _ (n + 1) _ (i : Int) = l_X11_bitsIn_5 T r (N : Int) (c : Int) M _ n _ _
    rw [l_X11_bitsIn_5, e, Int.toNat_natCast, hp i hi]
    refine c_neg (by omega) (c_neg (by omega) (c_ite (by omega) ?_))
    by_cases h : p i = (c : Int)
    · refine c_pos h (c_ite (by omega) ?_)
      rw [if_pos (decide_eq_true h)]
    · refine c_neg h (c_ite (by omega) ?_)
      rw [if_neg (by rw [decide_eq_false h]; decide)]
  · show l_X11_bitsIn_5 T r (N : Int) (c : Int) M _ (n + 1) _ (N : Int) = _
    rw [l_X11_bitsIn_5]
    exact c_pos (Int.le_refl _) rfl
theorem h_waysAt (hA : WF A) (hC : CT M A) {c : Nat} : f_X10_waysAt T 2 (c : Int) M = some (cntp (fun k => decide (A 2 k = c) || decide (A 3 k = c)) (A 0 2) : Int) := by
  have h10 := hA.1.2.2.1
  unfold f_X10_waysAt
  refine cnt_loop (fun n b i => l_X10_waysAt_4 T 2 (c : Int) M (fun w10 w11 => some w10) n b i) (A 0 2) (fun k => decide (A 2 k = c) || decide (A 3 k = c)) (by omega) (fun i n hi => ?_) (fun n => ?_)
  · obtain ⟨q1, q2, q3⟩ := hC.2.2.1 i hi
    have hcl := cntp_le (fun k => decide (A 2 k = c) || decide (A 3 k = c)) i
    show l_X10_waysAt_4 T 2 (c : Int) M _ (n + 1) _ (i : Int) = l_X10_waysAt_4 T 2 (c : Int) M _ n _ _
    rw [l_X10_waysAt_4, Int.toNat_natCast, show M (2 + 2) i = (A 2 i : Int) from q1, show M (2 + 3) i = (A 3 i : Int) from q2, show M (2 + 1) 2 = (A 0 2 : Int) from hC.1 2 (by decide)]
    refine c_neg (by omega) (c_ite (by omega) ?_)
    by_cases h1 : A 2 i = c
    · rw [if_pos (show (decide (A 2 i = c) || decide (A 3 i = c)) = true by rw [decide_eq_true h1]; rfl)]
      exact c_pos (by omega) (c_ite (by omega) (c_ite (by omega) rfl))
    · refine c_neg (by omega) ?_
      by_cases h2 : A 3 i = c
      · rw [if_pos (show (decide (A 2 i = c) || decide (A 3 i = c)) = true by rw [decide_eq_true h2, Bool.or_true])]
        exact c_pos (by omega) (c_ite (by omega) (c_ite (by omega) rfl))
      · rw [if_neg (show ¬ (decide (A 2 i = c) || decide (A 3 i = c)) = true by rw [decide_eq_false h1, decide_eq_false h2]; decide)]
        exact c_neg (by omega) (c_ite (by omega) rfl)
  · show l_X10_waysAt_4 T 2 (c : Int) M _ (n + 1) _ ((A 0 2 : Nat) : Int) = _
    rw [l_X10_waysAt_4, show M (2 + 1) 2 = (A 0 2 : Int) from hC.1 2 (by decide)]
    exact c_pos (Int.le_refl _) rfl
theorem c_cave (h : CQ M A S) (c what : Int) : opC (f_X11_cave T c what M) M (sp_cave A S c what) := by
  obtain ⟨hA, hS, hC, hs, hL, hF⟩ := h
  have h8 := hA.1.2.1
  have h3 := hA.1.2.2.2.1
  have h4 := hA.1.2.2.2.2.1
  have hm := hA.2.1.2.2.2.1
  unfold f_X11_cave sp_cave
  refine oC_isCave hC (fun hn => ?_) (fun c' hc hlt => ?_)
  · rw [gd_neg (fun h => hn h.1)]; exact oC_ref
  · subst hc
    by_cases hw1 : what < 0
    · rw [gd_neg (by omega)]; exact oC_pos hw1 oC_ref
    · refine oC_neg hw1 ?_
      by_cases hw2 : what ≤ 4
      · rw [gd_pos ⟨inr_of hlt, by omega, hw2⟩]
        refine oC_pos hw2 ?_
        obtain ⟨k, rfl⟩ : ∃ k : Nat, what = (k : Int) := ⟨what.toNat, by omega⟩
        rw [Int.toNat_natCast, Int.toNat_natCast]
        have hk : k = 0 ∨ k = 1 ∨ k = 2 ∨ k = 3 ∨ k = 4 := by omega
        rcases hk with rfl | rfl | rfl | rfl | rfl
        · refine oC_pos rfl ?_
          rw [hC.2.1.2.2.2.1]
          refine oC_bind (h_hasBit (by omega) (by omega)) ?_
          show opC _ M (bI ((A 1 3).testBit c'), 0)
          cases (A 1 3).testBit c'
          · exact oC_pos rfl (oC_al (sC.refl M))
          · exact oC_neg (by decide) (oC_al (sC.refl M))
        · refine oC_neg (by decide) (oC_pos rfl (oC_pos (by omega) ?_))
          rw [show M 40 c' = (nr A (dS S) c' : Int) from hL.1 c' (by omega)]
          exact oC_al (sC.refl M)
        · refine oC_neg (by decide) (oC_neg (by decide) (oC_pos rfl ?_))
          rw [hC.1 3 (by decide)]
          exact oC_bind (h_bitsIn (show ash 36 = (100, 3) from rfl) (by decide) h3 (by omega) (fun k hk => (hs.1 k hk).1)) (oC_al (sC.refl M))
        · refine oC_neg (by decide) (oC_neg (by decide) (oC_neg (by decide) (oC_pos rfl ?_)))
          rw [hC.1 4 (by decide)]
          exact oC_bind (h_bitsIn (show ash 38 = (100, 4) from rfl) (by decide) h4 (by omega) (fun k hk => hs.2.1 k hk)) (oC_al (sC.refl M))
        · refine oC_neg (by decide) (oC_neg (by decide) (oC_neg (by decide) (oC_neg (by decide) ?_)))
          exact oC_bind (h_waysAt hA hC) (oC_al (sC.refl M))
      · rw [gd_neg (by omega)]; exact oC_neg hw2 oC_ref
theorem m_cave (h : MD T M A S) (c what : Int) : opM (f_X13_cave T c what M) M (sp_cave A S c what) := by
  have hA := h.1
  have h8 := hA.1.2.1
  have h10 := hA.1.2.2.1
  have h3 := hA.1.2.2.2.1
  have h4 := hA.1.2.2.2.2.1
  have hmo := hA.2.1.2.2.2.1
  unfold f_X13_cave sp_cave
  refine oM_bind rfl ?_
  have h1 : sM M (aup M 138 0 0) := sM_fl (by omega)
  have hm1 := h.of h1
  refine oM_isCave hm1 (fun hn => ?_) (fun c' hc hlt => ?_)
  · rw [gd_neg (fun h => hn h.1)]; exact oM_ref h1
  · subst hc
    refine oM_in (fun hn => ?_) (fun hw => ?_)
    · rw [gd_neg (fun h => hn h.2)]; exact oM_ref h1
    · rw [gd_pos ⟨inr_of hlt, hw⟩, Int.toNat_natCast]
      obtain ⟨w, hw2⟩ := hm1.has (by omega)
      refine oM_bind (hm1.works hw2) ?_
      have hk := hm1.mk hw2
      have hsm := h1.trans (sM_works (M := aup M 138 0 0) (A := A) (dr := dS S))
      generalize worksM (aup M 138 0 0) A (dS S) = M1 at hk hsm
      obtain ⟨⟨m1, m2, m3⟩, hL, hx, hv2⟩ := hk
      obtain ⟨k, rfl⟩ : ∃ k : Nat, what = (k : Int) := ⟨what.toNat, by omega⟩
      rw [Int.toNat_natCast]
      have hk : k = 0 ∨ k = 1 ∨ k = 2 ∨ k = 3 ∨ k = 4 := by omega
      rcases hk with rfl | rfl | rfl | rfl | rfl
      · refine oM_pos rfl ?_
        show opM (if okW T (M1 138 3) then (f_X13_good T (aand (ashr (M1 (M1 138 3).toNat 4) (c' : Int)) 1) M1).bind fun x70 => some (x70.1, x70.2) else none) M _
        rw [m1, Int.toNat_natCast, m3.1.2.2.2.2.1, ahas_bI (by omega) (by omega)]
        exact oM_pos m2 (oM_good hsm)
      · refine oM_neg (by decide) (oM_pos rfl ?_)
        show opM (if 0 ≤ (c' : Int) ∧ (c' : Int) < 8 then (f_X13_good T (M1 145 c') M1).bind fun x70 => some (x70.1, x70.2) else none) M _
        rw [hL.1 c' (by omega)]
        exact oM_pos (by omega) (oM_good hsm)
      · refine oM_neg (by decide) (oM_neg (by decide) (oM_pos rfl ?_))
        have key : l_X13_cave_78 T (c' : Int) ((2 : Nat) : Int) M1 (fun w61 w62 => b_X13_cave_118 T (c' : Int) ((2 : Nat) : Int) w61 M1) FU 0 0 = b_X13_cave_118 T (c' : Int) ((2 : Nat) : Int) (msk (fun k => decide (S k = (c' : Int))) (A 0 3) : Int) M1 := by
          refine mask_loop (fun n b i => l_X13_cave_78 T (c' : Int) ((2 : Nat) : Int) M1 (fun w61 w62 => b_X13_cave_118 T (c' : Int) ((2 : Nat) : Int) w61 M1) n b i) (A 0 3) (fun k => decide (S k = (c' : Int))) (by omega) (fun i n hi => ?_) (fun n => ?_)
          · show l_X13_cave_78 T (c' : Int) ((2 : Nat) : Int) M1 _ (n + 1) _ (i : Int) = l_X13_cave_78 T (c' : Int) ((2 : Nat) : Int) M1 _ n _ _
            rw [l_X13_cave_78, m1, Int.toNat_natCast, m3.1.2.2.2.2.2.2.2.1, Int.toNat_natCast, hv2 i (by omega)]
            refine c_ite m2 (c_neg (by omega) (c_ite (by omega) ?_))
            by_cases h : S i = (c' : Int)
            · refine c_pos h (c_ite (by omega) ?_)
              rw [if_pos (decide_eq_true h)]
            · refine c_neg h (c_ite (by omega) ?_)
              rw [if_neg (by rw [decide_eq_false h]; decide), aor_0 (msk_lt31 _ (by omega))]
          · show l_X13_cave_78 T (c' : Int) ((2 : Nat) : Int) M1 _ (n + 1) _ ((A 0 3 : Nat) : Int) = _
            rw [l_X13_cave_78, m1, Int.toNat_natCast, m3.1.2.2.2.2.2.2.2.1]
            exact c_ite m2 (c_pos (Int.le_refl _) rfl)
        show opM (l_X13_cave_78 T (c' : Int) ((2 : Nat) : Int) M1 (fun w61 w62 => b_X13_cave_118 T (c' : Int) ((2 : Nat) : Int) w61 M1) FU 0 0) M _
        rw [key]
        unfold b_X13_cave_118 b_X13_cave_169
        exact oM_neg (by decide) (oM_neg (by decide) (oM_good hsm))
      · refine oM_neg (by decide) (oM_neg (by decide) (oM_neg (by decide) ?_))
        have key : l_X13_cave_126 T (c' : Int) ((3 : Nat) : Int) M1 (fun w52 w53 => b_X13_cave_169 T (c' : Int) ((3 : Nat) : Int) w52 M1) FU 0 0 = b_X13_cave_169 T (c' : Int) ((3 : Nat) : Int) (msk (fun f => decide (S (6 + f) = (c' : Int))) (A 0 4) : Int) M1 := by
          refine mask_loop (fun n b i => l_X13_cave_126 T (c' : Int) ((3 : Nat) : Int) M1 (fun w52 w53 => b_X13_cave_169 T (c' : Int) ((3 : Nat) : Int) w52 M1) n b i) (A 0 4) (fun f => decide (S (6 + f) = (c' : Int))) (by omega) (fun i n hi => ?_) (fun n => ?_)
          · show l_X13_cave_126 T (c' : Int) ((3 : Nat) : Int) M1 _ (n + 1) _ (i : Int) = l_X13_cave_126 T (c' : Int) ((3 : Nat) : Int) M1 _ n _ _
            rw [l_X13_cave_126, m1, Int.toNat_natCast, m3.1.2.2.2.2.2.2.2.2.1, show (6 + (i : Int)).toNat = 6 + i by omega, hv2 (6 + i) (by omega)]
            refine c_ite m2 (c_neg (by omega) (c_ite (by omega) (c_ite (by omega) ?_)))
            by_cases h : S (6 + i) = (c' : Int)
            · refine c_pos h (c_ite (by omega) ?_)
              rw [if_pos (decide_eq_true h)]
            · refine c_neg h (c_ite (by omega) ?_)
              rw [if_neg (by rw [decide_eq_false h]; decide), aor_0 (msk_lt31 _ (by omega))]
          · show l_X13_cave_126 T (c' : Int) ((3 : Nat) : Int) M1 _ (n + 1) _ ((A 0 4 : Nat) : Int) = _
            rw [l_X13_cave_126, m1, Int.toNat_natCast, m3.1.2.2.2.2.2.2.2.2.1]
            exact c_ite m2 (c_pos (Int.le_refl _) rfl)
        unfold b_X13_cave_118
        refine oM_pos rfl ?_
        show opM (l_X13_cave_126 T (c' : Int) ((3 : Nat) : Int) M1 (fun w52 w53 => b_X13_cave_169 T (c' : Int) ((3 : Nat) : Int) w52 M1) FU 0 0) M _
        rw [key]
        unfold b_X13_cave_169
        exact oM_neg (by decide) (oM_good hsm)
      · refine oM_neg (by decide) (oM_neg (by decide) (oM_neg (by decide) ?_))
        unfold b_X13_cave_118
        refine oM_neg (by decide) ?_
        unfold b_X13_cave_169
        refine oM_pos rfl ?_
        have key : l_X13_cave_177 T (c' : Int) M1 (fun w37 w38 => (f_X13_good T w37 M1).bind fun x41 => some (x41.1, x41.2)) FU 0 0 = (f_X13_good T (cntp (fun k => decide (A 2 k = c') || decide (A 3 k = c')) (A 0 2) : Int) M1).bind fun x41 => some (x41.1, x41.2) := by
          refine cnt_loop (fun n b i => l_X13_cave_177 T (c' : Int) M1 (fun w37 w38 => (f_X13_good T w37 M1).bind fun x41 => some (x41.1, x41.2)) n b i) (A 0 2) (fun k => decide (A 2 k = c') || decide (A 3 k = c')) (by omega) (fun i n hi => ?_) (fun n => ?_)
          · obtain ⟨q1, q2, q3⟩ := m3.2.1 i hi
            have hcl := cntp_le (fun k => decide (A 2 k = c') || decide (A 3 k = c')) i
            show l_X13_cave_177 T (c' : Int) M1 _ (n + 1) _ (i : Int) = l_X13_cave_177 T (c' : Int) M1 _ n _ _
            rw [l_X13_cave_177, m1, Int.toNat_natCast, m3.1.2.2.2.2.2.1, Int.toNat_natCast, q1, q2]
            refine c_ite m2 (c_neg (by omega) (c_ite (by omega) ?_))
            by_cases h1 : A 2 i = c'
            · rw [if_pos (show (decide (A 2 i = c') || decide (A 3 i = c')) = true by rw [decide_eq_true h1]; rfl)]
              exact c_pos (by omega) (c_ite (by omega) (c_ite (by omega) rfl))
            · refine c_neg (by omega) ?_
              by_cases h2 : A 3 i = c'
              · rw [if_pos (show (decide (A 2 i = c') || decide (A 3 i = c')) = true by rw [decide_eq_true h2, Bool.or_true])]
                exact c_pos (by omega) (c_ite (by omega) (c_ite (by omega) rfl))
              · rw [if_neg (show ¬ (decide (A 2 i = c') || decide (A 3 i = c')) = true by rw [decide_eq_false h1, decide_eq_false h2]; decide)]
                refine c_neg (by omega) (c_ite (by omega) (c_ite (by omega) ?_))
                rw [Int.add_zero]
          · show l_X13_cave_177 T (c' : Int) M1 _ (n + 1) _ ((A 0 2 : Nat) : Int) = _
            rw [l_X13_cave_177, m1, Int.toNat_natCast, m3.1.2.2.2.2.2.1]
            exact c_ite m2 (c_pos (Int.le_refl _) rfl)
        show opM (l_X13_cave_177 T (c' : Int) M1 (fun w37 w38 => (f_X13_good T w37 M1).bind fun x41 => some (x41.1, x41.2)) FU 0 0) M _
        rw [key]; exact oM_good hsm
end Opc
