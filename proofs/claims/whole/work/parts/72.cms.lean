/-! ===== comes, meets, silentIn ===== -/
section Cms
variable {A : aA} {S : Nat → Int} {T e w : Nat} {M M1 : aM}
def orN (p : Nat → Bool) (n : Nat) : Int := if fst p n < n then ((fst p n : Nat) : Int) else -2
def sp_comes (A : aA) (S : Nat → Int) (v c : Int) : Int × Int := gd (inr v (A 0 3) ∧ inr c (A 0 1)) (orN (fun n => decide (((vt A S v.toNat n).1 : Int) = c)) 61) 1
theorem trl_at {v yrs b : Nat} {g : Nat → Int} (h : b ≤ yrs) : trl A S v yrs g b = ((vt A S v b).1 : Int) := if_pos h
theorem c_comes (h : CQ M A S) (v c : Int) : opC (f_X11_comes T v c M) M (sp_comes A S v c) := by
  have hh := h
  obtain ⟨hA, hS, hC, hs, hL, hF⟩ := h
  unfold f_X11_comes sp_comes
  refine oC_isVoice hC (fun hn => ?_) (fun v' hv hlt => ?_)
  · rw [gd_neg (fun h => hn h.1)]; exact oC_ref
  · refine oC_isCave hC (fun hn => ?_) (fun c' hc hlt2 => ?_)
    · rw [gd_neg (fun h => hn h.2)]; exact oC_ref
    · subst hv hc
      rw [gd_pos ⟨inr_of hlt, inr_of hlt2⟩, Int.toNat_natCast]
      refine oC_bind (h_follow (yrs := 60) hh hlt (show ash 49 = (100, 217) from rfl) (by decide) (by omega) (by omega)) ?_
      have hsc : sC M (setc M 49 (trl A S v' 60 (M 49))) := sC_set (by decide)
      have key : ∀ (k : Int → Option (Int × aM)), l_X11_comes_41 T (c' : Int) (setc M 49 (trl A S v' 60 (M 49))) k FU 0 = if fst (fun n => decide (((vt A S v' n).1 : Int) = (c' : Int))) 61 < 61 then (f_X11_allow T ((fst (fun n => decide (((vt A S v' n).1 : Int) = (c' : Int))) 61 : Nat) : Int) (setc M 49 (trl A S v' 60 (M 49)))).bind (fun x19 => some (x19.1, x19.2)) else k 61 := by
        intro k
        refine find_loop (fun n i => l_X11_comes_41 T (c' : Int) (setc M 49 (trl A S v' 60 (M 49))) k n i) 61 (fun n => decide (((vt A S v' n).1 : Int) = (c' : Int))) (fun i => (f_X11_allow T (i : Int) (setc M 49 (trl A S v' 60 (M 49)))).bind (fun x19 => some (x19.1, x19.2))) (by omega) (fun i n hi hp => ?_) (fun i n hi hp => ?_) (fun n => ?_)
        · show l_X11_comes_41 T (c' : Int) _ k (n + 1) (i : Int) = _
          rw [l_X11_comes_41, setc_at, Int.toNat_natCast, trl_at (by omega)]
          exact c_neg (by omega) (c_ite (by omega) (c_neg (of_decide_eq_false hp) (c_ite (by omega) rfl)))
        · show l_X11_comes_41 T (c' : Int) _ k (n + 1) (i : Int) = _
          rw [l_X11_comes_41, setc_at, Int.toNat_natCast, trl_at (by omega)]
          exact c_neg (by omega) (c_ite (by omega) (c_pos (of_decide_eq_true hp) rfl))
        · show l_X11_comes_41 T (c' : Int) _ k (n + 1) ((61 : Nat) : Int) = _
          rw [l_X11_comes_41]
          exact c_pos (by decide) rfl
      show opC (l_X11_comes_41 T (c' : Int) (setc M 49 (trl A S v' 60 (M 49))) _ FU 0) M _
      rw [key]
      unfold orN
      by_cases hf : fst (fun n => decide (((vt A S v' n).1 : Int) = (c' : Int))) 61 < 61
      · rw [if_pos hf, if_pos hf]; exact oC_al hsc
      · rw [if_neg hf, if_neg hf]; exact oC_al hsc
theorem m_comes (h : MD T M A S) (v c : Int) : opM (f_X13_comes T v c M) M (sp_comes A S v c) := by
  have hA := h.1
  have hS := h.2.1
  have h3 := hA.1.2.2.2.1
  unfold f_X13_comes sp_comes
  refine oM_bind rfl ?_
  have h1 : sM M (aup M 138 0 0) := sM_fl (by omega)
  have hm1 := h.of h1
  refine oM_isVoice hm1 (fun hn => ?_) (fun v' hv hlt => ?_)
  · rw [gd_neg (fun h => hn h.1)]; exact oM_ref h1
  · refine oM_isCave hm1 (fun hn => ?_) (fun c' hc hlt2 => ?_)
    · rw [gd_neg (fun h => hn h.2)]; exact oM_ref h1
    · subst hv hc
      rw [gd_pos ⟨inr_of hlt, inr_of hlt2⟩, Int.toNat_natCast]
      obtain ⟨w, hw⟩ := hm1.has (by omega)
      refine oM_bind (hm1.works hw) ?_
      have hk := hm1.mk hw
      have hsm := h1.trans (sM_works (M := aup M 138 0 0) (A := A) (dr := dS S))
      generalize worksM (aup M 138 0 0) A (dS S) = M1 at hk hsm
      have hyr := hk.yr hA hS
      unfold orN
      generalize hq0 : fst (fun n => decide (((vt A S v' n).1 : Int) = (c' : Int))) 61 = q
      have hq : q ≤ 61 := hq0 ▸ fst_le _ _
      have key : ∀ kk : Int → aM → Option (Int × aM), l_X13_comes_33 T (v' : Int) (c' : Int) kk FU 0 M1 = if q < 61 then (f_X13_good T (q : Int) (setc M1 141 (xf A S (M1 141) q))).bind (fun x25 => some (x25.1, x25.2)) else kk 61 (setc M1 141 (xf A S (M1 141) 61)) := by
        intro kk
        have := for_until (fun i n => l_X13_comes_33 T (v' : Int) (c' : Int) kk n (i : Int) (setc M1 141 (xf A S (M1 141) i))) (y := if q < 61 then (f_X13_good T (q : Int) (setc M1 141 (xf A S (M1 141) q))).bind (fun x25 => some (x25.1, x25.2)) else kk 61 (setc M1 141 (xf A S (M1 141) 61))) q (fun i n hi => ?_) (fun n => ?_) (by omega)
        · have t2 : l_X13_comes_33 T (v' : Int) (c' : Int) kk FU ((0 : Nat) : Int) (setc M1 141 (xf A S (M1 141) 0)) = _ := this
          rw [← hyr] at t2
          exact t2
        · have hp := fst_no (fun n => decide (((vt A S v' n).1 : Int) = (c' : Int))) 61 i (by omega)
          show l_X13_comes_33 T (v' : Int) (c' : Int) kk (n + 1) (i : Int) _ = l_X13_comes_33 T (v' : Int) (c' : Int) kk n ((i + 1 : Nat) : Int) _
          rw [l_X13_comes_33]
          refine c_neg (by omega) (c_ite (by omega) (c_neg ?_ (c_bind (g_aYear hA hS hk.1 hk.2.1 (by omega)) (c_ite (by omega) rfl))))
          rw [setc_at, Int.toNat_natCast, xf_v hA hlt]
          exact of_decide_eq_false hp
        · show l_X13_comes_33 T (v' : Int) (c' : Int) kk (n + 1) (q : Int) _ = _
          rw [l_X13_comes_33]
          by_cases hf : q < 61
          · have hp := fst_yes (fun n => decide (((vt A S v' n).1 : Int) = (c' : Int))) 61 (by omega)
            rw [hq0] at hp
            rw [if_pos hf]
            refine c_neg (by omega) (c_ite (by omega) (c_pos ?_ rfl))
            rw [setc_at, Int.toNat_natCast, xf_v hA hlt]
            exact of_decide_eq_true hp
          · rw [if_neg hf, show q = 61 by omega]
            exact c_pos (by decide) rfl
      show opM (l_X13_comes_33 T (v' : Int) (c' : Int) _ FU 0 M1) M _
      rw [key]
      by_cases hf : q < 61
      · rw [if_pos hf, if_pos hf]; exact oM_good (hsm.trans (sM_set (by omega)))
      · rw [if_neg hf, if_neg hf]; exact oM_good (hsm.trans (sM_set (by omega)))
def sp_meets (A : aA) (S : Nat → Int) (v u : Int) : Int × Int := gd (inr v (A 0 3) ∧ inr u (A 0 3) ∧ v ≠ u) (orN (fun n => decide (((vt A S v.toNat n).1 : Int) = ((vt A S u.toNat n).1 : Int))) 61) 1
theorem c_meets (h : CQ M A S) (v u : Int) : opC (f_X11_meets T v u M) M (sp_meets A S v u) := by
  have hh := h
  obtain ⟨hA, hS, hC, hs, hL, hF⟩ := h
  unfold f_X11_meets sp_meets
  refine oC_isVoice hC (fun hn => ?_) (fun v' hv hlt => ?_)
  · rw [gd_neg (fun h => hn h.1)]; exact oC_ref
  · refine oC_isVoice hC (fun hn => ?_) (fun u' hu hlt2 => ?_)
    · rw [gd_neg (fun h => hn h.2.1)]; exact oC_ref
    · subst hv hu
      by_cases hvu : (v' : Int) = (u' : Int)
      · rw [gd_neg (fun h => h.2.2 hvu)]; exact oC_pos hvu oC_ref
      · rw [gd_pos ⟨inr_of hlt, inr_of hlt2, hvu⟩, Int.toNat_natCast, Int.toNat_natCast]
        refine oC_neg hvu (oC_bind (h_follow (yrs := 60) hh hlt (show ash 49 = (100, 217) from rfl) (by decide) (by omega) (by omega)) ?_)
        have hsc : sC M (setc M 49 (trl A S v' 60 (M 49))) := sC_set (by decide)
        refine oC_bind (h_follow (yrs := 60) (hh.of hsc) hlt2 (show ash 50 = (100, 61) from rfl) (by decide) (by omega) (by omega)) ?_
        have hsc2 : sC M (setc (setc M 49 (trl A S v' 60 (M 49))) 50 (trl A S u' 60 (setc M 49 (trl A S v' 60 (M 49)) 50))) := hsc.trans (sC_set (by decide))
        have e49 : setc (setc M 49 (trl A S v' 60 (M 49))) 50 (trl A S u' 60 (setc M 49 (trl A S v' 60 (M 49)) 50)) 49 = trl A S v' 60 (M 49) := by rw [setc_ne (by decide), setc_at]
        have e50 : setc (setc M 49 (trl A S v' 60 (M 49))) 50 (trl A S u' 60 (setc M 49 (trl A S v' 60 (M 49)) 50)) 50 = trl A S u' 60 (setc M 49 (trl A S v' 60 (M 49)) 50) := setc_at
        generalize setc (setc M 49 (trl A S v' 60 (M 49))) 50 (trl A S u' 60 (setc M 49 (trl A S v' 60 (M 49)) 50)) = M2 at hsc2 e49 e50
        have key : ∀ (k : Int → Option (Int × aM)), l_X11_meets_63 T M2 k FU 0 = if fst (fun n => decide (((vt A S v' n).1 : Int) = ((vt A S u' n).1 : Int))) 61 < 61 then (f_X11_allow T ((fst (fun n => decide (((vt A S v' n).1 : Int) = ((vt A S u' n).1 : Int))) 61 : Nat) : Int) M2).bind (fun x19 => some (x19.1, x19.2)) else k 61 := by
          intro k
          refine find_loop (fun n i => l_X11_meets_63 T M2 k n i) 61 (fun n => decide (((vt A S v' n).1 : Int) = ((vt A S u' n).1 : Int))) (fun i => (f_X11_allow T (i : Int) M2).bind (fun x19 => some (x19.1, x19.2))) (by omega) (fun i n hi hp => ?_) (fun i n hi hp => ?_) (fun n => ?_)
          · show l_X11_meets_63 T _ k (n + 1) (i : Int) = _
            rw [l_X11_meets_63, e49, e50, Int.toNat_natCast, trl_at (by omega), trl_at (by omega)]
            exact c_neg (by omega) (c_ite (by omega) (c_ite (by omega) (c_neg (of_decide_eq_false hp) (c_ite (by omega) rfl))))
          · show l_X11_meets_63 T _ k (n + 1) (i : Int) = _
            rw [l_X11_meets_63, e49, e50, Int.toNat_natCast, trl_at (by omega), trl_at (by omega)]
            exact c_neg (by omega) (c_ite (by omega) (c_ite (by omega) (c_pos (of_decide_eq_true hp) rfl)))
          · show l_X11_meets_63 T _ k (n + 1) ((61 : Nat) : Int) = _
            rw [l_X11_meets_63]
            exact c_pos (by decide) rfl
        show opC (l_X11_meets_63 T M2 _ FU 0) M _
        rw [key]
        unfold orN
        by_cases hf : fst (fun n => decide (((vt A S v' n).1 : Int) = ((vt A S u' n).1 : Int))) 61 < 61
        · rw [if_pos hf, if_pos hf]; exact oC_al hsc2
        · rw [if_neg hf, if_neg hf]; exact oC_al hsc2
theorem m_meets (h : MD T M A S) (v u : Int) : opM (f_X13_meets T v u M) M (sp_meets A S v u) := by
  have hA := h.1
  have hS := h.2.1
  have h3 := hA.1.2.2.2.1
  unfold f_X13_meets sp_meets
  refine oM_bind rfl ?_
  have h1 : sM M (aup M 138 0 0) := sM_fl (by omega)
  have hm1 := h.of h1
  refine oM_isVoice hm1 (fun hn => ?_) (fun v' hv hlt => ?_)
  · rw [gd_neg (fun h => hn h.1)]; exact oM_ref h1
  · refine oM_isVoice hm1 (fun hn => ?_) (fun u' hu hlt2 => ?_)
    · rw [gd_neg (fun h => hn h.2.1)]; exact oM_ref h1
    · subst hv hu
      by_cases hvu : (v' : Int) = (u' : Int)
      · rw [gd_neg (fun h => h.2.2 hvu)]; exact oM_pos hvu (oM_ref h1)
      · rw [gd_pos ⟨inr_of hlt, inr_of hlt2, hvu⟩, Int.toNat_natCast, Int.toNat_natCast]
        obtain ⟨w, hw⟩ := hm1.has (by omega)
        refine oM_neg hvu (oM_bind (hm1.works hw) ?_)
        have hk := hm1.mk hw
        have hsm := h1.trans (sM_works (M := aup M 138 0 0) (A := A) (dr := dS S))
        generalize worksM (aup M 138 0 0) A (dS S) = M1 at hk hsm
        have hyr := hk.yr hA hS
        unfold orN
        generalize hq0 : fst (fun n => decide (((vt A S v' n).1 : Int) = ((vt A S u' n).1 : Int))) 61 = q
        have hq : q ≤ 61 := hq0 ▸ fst_le _ _
        have key : ∀ kk : Int → aM → Option (Int × aM), l_X13_meets_38 T (v' : Int) (u' : Int) kk FU 0 M1 = if q < 61 then (f_X13_good T (q : Int) (setc M1 141 (xf A S (M1 141) q))).bind (fun x25 => some (x25.1, x25.2)) else kk 61 (setc M1 141 (xf A S (M1 141) 61)) := by
          intro kk
          have := for_until (fun i n => l_X13_meets_38 T (v' : Int) (u' : Int) kk n (i : Int) (setc M1 141 (xf A S (M1 141) i))) (y := if q < 61 then (f_X13_good T (q : Int) (setc M1 141 (xf A S (M1 141) q))).bind (fun x25 => some (x25.1, x25.2)) else kk 61 (setc M1 141 (xf A S (M1 141) 61))) q (fun i n hi => ?_) (fun n => ?_) (by omega)
          · have t2 : l_X13_meets_38 T (v' : Int) (u' : Int) kk FU ((0 : Nat) : Int) (setc M1 141 (xf A S (M1 141) 0)) = _ := this
            rw [← hyr] at t2
            exact t2
          · have hp := fst_no (fun n => decide (((vt A S v' n).1 : Int) = ((vt A S u' n).1 : Int))) 61 i (by omega)
            show l_X13_meets_38 T (v' : Int) (u' : Int) kk (n + 1) (i : Int) _ = l_X13_meets_38 T (v' : Int) (u' : Int) kk n ((i + 1 : Nat) : Int) _
            rw [l_X13_meets_38]
            refine c_neg (by omega) (c_ite (by omega) (c_ite (by omega) (c_neg ?_ (c_bind (g_aYear hA hS hk.1 hk.2.1 (by omega)) (c_ite (by omega) rfl)))))
            rw [setc_at, Int.toNat_natCast, Int.toNat_natCast, xf_v hA hlt, xf_v hA hlt2]
            exact of_decide_eq_false hp
          · show l_X13_meets_38 T (v' : Int) (u' : Int) kk (n + 1) (q : Int) _ = _
            rw [l_X13_meets_38]
            by_cases hf : q < 61
            · have hp := fst_yes (fun n => decide (((vt A S v' n).1 : Int) = ((vt A S u' n).1 : Int))) 61 (by omega)
              rw [hq0] at hp
              rw [if_pos hf]
              refine c_neg (by omega) (c_ite (by omega) (c_ite (by omega) (c_pos ?_ rfl)))
              rw [setc_at, Int.toNat_natCast, Int.toNat_natCast, xf_v hA hlt, xf_v hA hlt2]
              exact of_decide_eq_true hp
            · rw [if_neg hf, show q = 61 by omega]
              exact c_pos (by decide) rfl
        show opM (l_X13_meets_38 T (v' : Int) (u' : Int) _ FU 0 M1) M _
        rw [key]
        by_cases hf : q < 61
        · rw [if_pos hf, if_pos hf]; exact oM_good (hsm.trans (sM_set (by omega)))
        · rw [if_neg hf, if_neg hf]; exact oM_good (hsm.trans (sM_set (by omega)))
/-- silent: no folk hear -/
theorem hrs_zero (hA : WF A) (hS : WS A S) {c : Nat} : hrs A S c = 0 ↔ A 1 0 < nea A S c := by
  have hl := hA.2.1.1
  have key := nfk_iff (A := A) (S := S) (c := c) (l := A 1 0) (by omega) (A 0 4)
  constructor
  · intro h
    apply Nat.lt_of_not_le
    intro h2
    obtain ⟨f, hf, hd⟩ := key.mp h2
    have hb : (hrs A S c).testBit f = true := by
      unfold hrs
      rw [msk_bit, decide_eq_true hf, Bool.true_and, decide_eq_true_eq, dst_symm hA]
      exact hd
    rw [h, Nat.zero_testBit] at hb
    cases hb
  · intro h
    apply Nat.eq_of_testBit_eq
    intro f
    unfold hrs
    rw [msk_bit, Nat.zero_testBit]
    by_cases hf : f < A 0 4
    · rw [decide_eq_true hf, Bool.true_and, decide_eq_false_iff_not, dst_symm hA]
      intro hd
      have h5 : nea A S c ≤ A 1 0 := key.mpr ⟨f, hf, hd⟩
      omega
    · rw [decide_eq_false hf, Bool.false_and]
theorem g_isSilent (h : MY T M w A S) {v c : Nat} (hv : v < 12) (hc : c < A 0 1) (e : M 141 v = (c : Int)) : f_X13_isSilent T (v : Int) M = some (bI (decide (A 1 0 < nea A S c))) := by
  unfold f_X13_isSilent
  rw [Int.toNat_natCast, e]
  refine c_ite (by omega) (c_bind (g_nearest h hc) ?_)
  obtain ⟨m1, m2, m3⟩ := h.2.2.1
  rw [m1, Int.toNat_natCast, m3.1.1]
  refine c_ite m2 ?_
  by_cases hs : A 1 0 < nea A S c
  · rw [if_neg (by omega), decide_eq_true hs]; rfl
  · rw [if_pos (by omega), decide_eq_false hs]; rfl
def sp_silentIn (A : aA) (S : Nat → Int) (v : Int) : Int × Int := gd (inr v (A 0 3)) (orN (fun n => decide (A 1 0 < nea A S (vt A S v.toNat n).1)) 61) 1
theorem c_silentIn (h : CQ M A S) (v : Int) : opC (f_X11_silentIn T v M) M (sp_silentIn A S v) := by
  have hh := h
  obtain ⟨hA, hS, hC, hs, hL, hF⟩ := h
  unfold f_X11_silentIn sp_silentIn
  refine oC_isVoice hC (fun hn => ?_) (fun v' hv hlt => ?_)
  · rw [gd_neg hn]; exact oC_ref
  · subst hv
    rw [gd_pos (inr_of hlt), Int.toNat_natCast]
    refine oC_bind (h_follow (yrs := 60) hh hlt (show ash 49 = (100, 217) from rfl) (by decide) (by omega) (by omega)) ?_
    have hsc : sC M (setc M 49 (trl A S v' 60 (M 49))) := sC_set (by decide)
    have hh2 := hh.of hsc
    have ok := fun i => (vt_ok hA hS hlt i).1
    have key : ∀ (k : Int → Option (Int × aM)), l_X11_silentIn_33 T (setc M 49 (trl A S v' 60 (M 49))) k FU 0 = if fst (fun n => decide (A 1 0 < nea A S (vt A S v' n).1)) 61 < 61 then (f_X11_allow T ((fst (fun n => decide (A 1 0 < nea A S (vt A S v' n).1)) 61 : Nat) : Int) (setc M 49 (trl A S v' 60 (M 49)))).bind (fun x19 => some (x19.1, x19.2)) else k 61 := by
      intro k
      refine find_loop (fun n i => l_X11_silentIn_33 T (setc M 49 (trl A S v' 60 (M 49))) k n i) 61 (fun n => decide (A 1 0 < nea A S (vt A S v' n).1)) (fun i => (f_X11_allow T (i : Int) (setc M 49 (trl A S v' 60 (M 49)))).bind (fun x19 => some (x19.1, x19.2))) (by omega) (fun i n hi hp => ?_) (fun i n hi hp => ?_) (fun n => ?_)
      · show l_X11_silentIn_33 T _ k (n + 1) (i : Int) = _
        rw [l_X11_silentIn_33, setc_at, Int.toNat_natCast, trl_at (by omega)]
        refine c_neg (by omega) (c_ite (by omega) (c_bind (h_hearersOf hh2 (ok i)) (c_neg ?_ (c_ite (by omega) rfl))))
        intro h0
        have h0' : hrs A S (vt A S v' i).1 = 0 := by omega
        exact of_decide_eq_false hp ((hrs_zero hA hS).mp h0')
      · show l_X11_silentIn_33 T _ k (n + 1) (i : Int) = _
        rw [l_X11_silentIn_33, setc_at, Int.toNat_natCast, trl_at (by omega)]
        refine c_neg (by omega) (c_ite (by omega) (c_bind (h_hearersOf hh2 (ok i)) (c_pos ?_ rfl)))
        rw [(hrs_zero hA hS).mpr (of_decide_eq_true hp)]; rfl
      · show l_X11_silentIn_33 T _ k (n + 1) ((61 : Nat) : Int) = _
        rw [l_X11_silentIn_33]
        exact c_pos (by decide) rfl
    show opC (l_X11_silentIn_33 T (setc M 49 (trl A S v' 60 (M 49))) _ FU 0) M _
    rw [key]
    unfold orN
    by_cases hf : fst (fun n => decide (A 1 0 < nea A S (vt A S v' n).1)) 61 < 61
    · rw [if_pos hf, if_pos hf]; exact oC_al hsc
    · rw [if_neg hf, if_neg hf]; exact oC_al hsc
/-- the model, some years on -/
theorem my_at (hA : WF A) (hS : WS A S) (hm : MV T M w A) (hL : LM M A (dS S)) {g : Nat → Int} {i : Nat} : MY T (setc M 141 (xf A S g i)) w A S := by
  have h3 := hA.1.2.2.2.1
  have h4 := hA.1.2.2.2.2.1
  refine ⟨hA, hS, mv_ne hm (by omega) _, ?_, fun f hf => ?_⟩
  · unfold LM at hL ⊢
    rw [setc_ne (by decide), setc_ne (by decide)]; exact hL
  · rw [setc_at]
    unfold xf xs
    rw [if_pos (by omega), if_neg (by omega), if_neg (by omega), if_neg (by omega)]
theorem m_silentIn (h : MD T M A S) (v : Int) : opM (f_X13_silentIn T v M) M (sp_silentIn A S v) := by
  have hA := h.1
  have hS := h.2.1
  have h3 := hA.1.2.2.2.1
  unfold f_X13_silentIn sp_silentIn
  refine oM_bind rfl ?_
  have h1 : sM M (aup M 138 0 0) := sM_fl (by omega)
  have hm1 := h.of h1
  refine oM_isVoice hm1 (fun hn => ?_) (fun v' hv hlt => ?_)
  · rw [gd_neg hn]; exact oM_ref h1
  · subst hv
    rw [gd_pos (inr_of hlt), Int.toNat_natCast]
    obtain ⟨w, hw⟩ := hm1.has (by omega)
    refine oM_bind (hm1.works hw) ?_
    have hk := hm1.mk hw
    have hsm := h1.trans (sM_works (M := aup M 138 0 0) (A := A) (dr := dS S))
    generalize worksM (aup M 138 0 0) A (dS S) = M1 at hk hsm
    have hyr := hk.yr hA hS
    have ok := fun i => (vt_ok hA hS hlt i).1
    unfold orN
    generalize hq0 : fst (fun n => decide (A 1 0 < nea A S (vt A S v' n).1)) 61 = q
    have hq : q ≤ 61 := hq0 ▸ fst_le _ _
    have key : ∀ kk : Int → aM → Option (Int × aM), l_X13_silentIn_25 T (v' : Int) kk FU 0 M1 = if q < 61 then (f_X13_good T (q : Int) (setc M1 141 (xf A S (M1 141) q))).bind (fun x25 => some (x25.1, x25.2)) else kk 61 (setc M1 141 (xf A S (M1 141) 61)) := by
      intro kk
      have := for_until (fun i n => l_X13_silentIn_25 T (v' : Int) kk n (i : Int) (setc M1 141 (xf A S (M1 141) i))) (y := if q < 61 then (f_X13_good T (q : Int) (setc M1 141 (xf A S (M1 141) q))).bind (fun x25 => some (x25.1, x25.2)) else kk 61 (setc M1 141 (xf A S (M1 141) 61))) q (fun i n hi => ?_) (fun n => ?_) (by omega)
      · have t2 : l_X13_silentIn_25 T (v' : Int) kk FU ((0 : Nat) : Int) (setc M1 141 (xf A S (M1 141) 0)) = _ := this
        rw [← hyr] at t2
        exact t2
      · have hp := fst_no (fun n => decide (A 1 0 < nea A S (vt A S v' n).1)) 61 i (by omega)
        show l_X13_silentIn_25 T (v' : Int) kk (n + 1) (i : Int) _ = l_X13_silentIn_25 T (v' : Int) kk n ((i + 1 : Nat) : Int) _
        rw [l_X13_silentIn_25]
        refine c_neg (by omega) (c_bind (g_isSilent (my_at hA hS hk.1 hk.2.1) (by omega) (ok i) (by rw [setc_at, xf_v hA hlt])) ?_)
        have hp2 : decide (A 1 0 < nea A S (vt A S v' i).1) = false := hp
        rw [hp2]
        exact c_pos rfl (c_bind (g_aYear hA hS hk.1 hk.2.1 (by omega)) (c_ite (by omega) rfl))
      · show l_X13_silentIn_25 T (v' : Int) kk (n + 1) (q : Int) _ = _
        rw [l_X13_silentIn_25]
        by_cases hf : q < 61
        · have hp := fst_yes (fun n => decide (A 1 0 < nea A S (vt A S v' n).1)) 61 (by omega)
          rw [hq0] at hp
          have hp2 : decide (A 1 0 < nea A S (vt A S v' q).1) = true := hp
          rw [if_pos hf]
          refine c_neg (by omega) (c_bind (g_isSilent (my_at hA hS hk.1 hk.2.1) (by omega) (ok q) (by rw [setc_at, xf_v hA hlt])) ?_)
          rw [hp2]
          exact c_neg (by decide) rfl
        · rw [if_neg hf, show q = 61 by omega]
          exact c_pos (by decide) rfl
    show opM (l_X13_silentIn_25 T (v' : Int) _ FU 0 M1) M _
    rw [key]
    by_cases hf : q < 61
    · rw [if_pos hf, if_pos hf]; exact oM_good (hsm.trans (sM_set (by omega)))
    · rw [if_neg hf, if_neg hf]; exact oM_good (hsm.trans (sM_set (by omega)))
end Cms
