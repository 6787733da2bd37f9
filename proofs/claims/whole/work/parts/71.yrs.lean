/-! ===== years: after, comes, meets, silentIn ===== -/
section Yrs
variable {A : aA} {S : Nat → Int} {T e w : Nat} {M M1 : aM}
/-- where a voice is behind some years, and where it came from -/
def vt (A : aA) (S : Nat → Int) (v : Nat) : Nat → Nat × Int
  | 0 => ((S v).toNat, S (3 + v))
  | i + 1 => if ys A S (A 5 v) (vt A S v i).1 (vt A S v i).2 = (vt A S v i).1 then vt A S v i else (ys A S (A 5 v) (vt A S v i).1 (vt A S v i).2, ((vt A S v i).1 : Int))
theorem vt_ok (hA : WF A) (hS : WS A S) {v : Nat} (hv : v < A 0 3) : ∀ i, (vt A S v i).1 < A 0 1 ∧ ((vt A S v i).2 = -2 ∨ (0 ≤ (vt A S v i).2 ∧ (vt A S v i).2 < (A 0 1 : Int)))
  | 0 => by
    have := hS.1 v hv
    constructor
    · show (S v).toNat < A 0 1
      omega
    · exact this.2.2
  | i + 1 => by
    obtain ⟨h1, h2⟩ := vt_ok hA hS hv i
    have h3 := ys_lt (S := S) (kind := A 5 v) hA h1 h2
    by_cases h : ys A S (A 5 v) (vt A S v i).1 (vt A S v i).2 = (vt A S v i).1
    · rw [show vt A S v (i + 1) = vt A S v i from if_pos h]; exact ⟨h1, h2⟩
    · rw [show vt A S v (i + 1) = (ys A S (A 5 v) (vt A S v i).1 (vt A S v i).2, ((vt A S v i).1 : Int)) from if_neg h]
      exact ⟨h3, Or.inr ⟨by show (0 : Int) ≤ ((vt A S v i).1 : Int); omega, by show ((vt A S v i).1 : Int) < _; omega⟩⟩
theorem CQ.of (h : CQ M A S) (hs : sC M M1) : CQ M1 A S := by
  obtain ⟨hA, hS, hC, h35, h39, h42⟩ := h
  have e : ∀ n, n < 45 → M1 n = M n := fun n hn => hs n (Or.inl hn)
  refine ⟨hA, hS, ?_, ?_, ?_, ?_⟩
  · unfold CT at hC ⊢
    rw [e 2 (by decide), e 3 (by decide), e 4 (by decide), e 5 (by decide), e 6 (by decide), e 7 (by decide), e 8 (by decide), e 9 (by decide), e 10 (by decide), e 11 (by decide), e 12 (by decide), e 13 (by decide), e 14 (by decide), e 15 (by decide)]
    exact hC
  · unfold CS at h35 ⊢
    rw [e 35 (by decide), e (35 + 1) (by decide), e (35 + 2) (by decide), e (35 + 3) (by decide)]
    exact h35
  · unfold LD at h39 ⊢
    rw [e (39 + 1) (by decide), e (39 + 2) (by decide)]
    exact h39
  · unfold LD at h42 ⊢
    rw [e (42 + 1) (by decide), e (42 + 2) (by decide)]
    exact h42
/-- a row of years -/
def trl (A : aA) (S : Nat → Int) (v yrs : Nat) (g : Nat → Int) : Nat → Int := fun b => if b ≤ yrs then ((vt A S v b).1 : Int) else g b
theorem h_follow (h : CQ M A S) {v yrs r len : Nat} (hv : v < A 0 3) (ha : ash r = (100, len)) (hr : 45 ≤ r ∧ r ≤ 58) (hl : yrs < len) (hy : yrs ≤ 300) : f_X1_follow T (v : Int) (yrs : Int) r M = some (0, setc M r (trl A S v yrs (M r))) := by
  have hA := h.1
  have hS := h.2.1
  have h3 := hA.1.2.2.2.1
  have eA : (ash r).2 = len := by rw [ha]
  have hv0 := hS.1 v hv
  have ok := fun i => vt_ok hA hS hv i
  have e36 : M 36 v = ((vt A S v 0).1 : Int) := by
    rw [show M 36 v = S v from (h.2.2.2.1.1 v hv).1]
    show S v = (((S v).toNat : Nat) : Int)
    omega
  have e37 : M 37 v = (vt A S v 0).2 := (h.2.2.2.1.1 v hv).2
  unfold f_X1_follow
  rw [Int.toNat_natCast, e36, e37, eA]
  refine c_ite ⟨by rw [ha], by omega⟩ (c_ite (by omega) (c_ite (by omega) (c_some ?_)))
  rw [aup_eq]
  have e0 : (fun b => if b = 0 then ((vt A S v 0).1 : Int) else M r b) = trl A S v 0 (M r) := by
    funext b
    unfold trl
    by_cases hb : b = 0
    · rw [if_pos hb, if_pos (by omega), hb]
    · rw [if_neg hb, if_neg (by omega)]
  rw [e0]
  refine for_until (fun i n => l_X1_follow_30 T (v : Int) (yrs : Int) r (fun w19 w20 w21 m23 => some (0, m23)) n ((vt A S v i).1 : Int) (vt A S v i).2 ((i + 1 : Nat) : Int) (setc M r (trl A S v i (M r)))) yrs (fun i n hi => ?_) (fun n => ?_) (by omega)
  · have hc1 := (h.of (sC_set (f := trl A S v i (M r)) hr)).cy
    show l_X1_follow_30 T (v : Int) (yrs : Int) r _ (n + 1) ((vt A S v i).1 : Int) (vt A S v i).2 ((i + 1 : Nat) : Int) (setc M r (trl A S v i (M r))) = l_X1_follow_30 T (v : Int) (yrs : Int) r _ n ((vt A S v (i + 1)).1 : Int) (vt A S v (i + 1)).2 ((i + 1 + 1 : Nat) : Int) (setc M r (trl A S v (i + 1) (M r)))
    rw [l_X1_follow_30, eA, Int.toNat_natCast, Int.toNat_natCast, (hc1.2.2.1.2.2.2.2.1 v hv).1]
    refine c_neg (by omega) (c_neg (by omega) (c_ite (by omega) (c_bind (h_yearStep hc1 (ok i).1 (ok i).2) ?_)))
    have etr : ∀ x : Nat, x = (vt A S v (i + 1)).1 → (fun b => if b = i + 1 then (x : Int) else trl A S v i (M r) b) = trl A S v (i + 1) (M r) := by
      intro x hx
      funext b
      unfold trl
      by_cases hb : b = i + 1
      · rw [if_pos hb, if_pos (by omega), hb, hx]
      · rw [if_neg hb]
        by_cases hb2 : b ≤ i
        · rw [if_pos hb2, if_pos (by omega)]
        · rw [if_neg hb2, if_neg (by omega)]
    by_cases hy2 : ys A S (A 5 v) (vt A S v i).1 (vt A S v i).2 = (vt A S v i).1
    · have ev : vt A S v (i + 1) = vt A S v i := if_pos hy2
      refine c_pos (by rw [hy2]) (c_ite (by omega) (c_some (c_ite (by omega) ?_)))
      rw [aup_setc, etr (vt A S v i).1 (by rw [ev]), ev]; rfl
    · have ev : vt A S v (i + 1) = (ys A S (A 5 v) (vt A S v i).1 (vt A S v i).2, ((vt A S v i).1 : Int)) := if_neg hy2
      refine c_neg (by omega) (c_ite (by omega) (c_some (c_ite (by omega) ?_)))
      rw [aup_setc, etr (ys A S (A 5 v) (vt A S v i).1 (vt A S v i).2) (by rw [ev]), ev]; rfl
  · show l_X1_follow_30 T (v : Int) (yrs : Int) r _ (n + 1) ((vt A S v yrs).1 : Int) (vt A S v yrs).2 ((yrs + 1 : Nat) : Int) (setc M r (trl A S v yrs (M r))) = _
    rw [l_X1_follow_30]
    exact c_pos (by omega) rfl
/-- the model's row of what is worked on, behind some years -/
def xs (A : aA) (S : Nat → Int) (i k : Nat) : Int := if k < A 0 3 then ((vt A S k i).1 : Int) else if 3 ≤ k ∧ k < 3 + A 0 3 then (vt A S (k - 3) i).2 else if k = 11 then S 11 + (i : Int) else S k
def xf (A : aA) (S : Nat → Int) (g : Nat → Int) (i : Nat) : Nat → Int := fun b => if b < 12 then xs A S i b else g b
theorem xs_0 (hS : WS A S) (k : Nat) : xs A S 0 k = S k := by
  unfold xs
  split
  · rename_i h
    have := hS.1 k h
    show (((S k).toNat : Nat) : Int) = S k
    omega
  · split
    · rename_i h1 h
      show S (3 + (k - 3)) = S k
      congr 1; omega
    · split
      · rename_i h; rw [h]; omega
      · rfl
theorem xf_0 (hS : WS A S) {g : Nat → Int} {f : Nat → Int} (h : ∀ k, k < 12 → f k = S k) (h2 : ∀ k, 12 ≤ k → f k = g k) : f = xf A S g 0 := by
  funext b
  unfold xf
  by_cases hb : b < 12
  · rw [if_pos hb, xs_0 hS, h b hb]
  · rw [if_neg hb, h2 b (by omega)]
theorem xf_v {g : Nat → Int} {i v : Nat} (hA : WF A) (hv : v < A 0 3) : xf A S g i v = ((vt A S v i).1 : Int) := by
  have h3 := hA.1.2.2.2.1
  unfold xf xs
  rw [if_pos (by omega), if_pos hv]
theorem xf_c {g : Nat → Int} {i v : Nat} (hA : WF A) (hv : v < A 0 3) : xf A S g i (3 + v) = (vt A S v i).2 := by
  have h3 := hA.1.2.2.2.1
  unfold xf xs
  rw [if_pos (by omega), if_neg (by omega), if_pos (by omega), show 3 + v - 3 = v by omega]
def goes (A : aA) (S : Nat → Int) (i k : Nat) : Bool := !decide ((vt A S k (i + 1)).1 = (vt A S k i).1)
def xmix (A : aA) (S : Nat → Int) (g : Nat → Int) (i j : Nat) : Nat → Int := fun b => if b < j ∨ (3 ≤ b ∧ b < 3 + j) then xf A S g (i + 1) b else xf A S g i b
theorem g_aYear (hA : WF A) (hS : WS A S) (hm : MV T M w A) (hL : LM M A (dS S)) {g : Nat → Int} {i : Nat} (hi : i ≤ 400) : f_X13_aYear T (setc M 141 (xf A S g i)) = some ((msk (goes A S i) (A 0 3) : Int), setc M 141 (xf A S g (i + 1))) := by
  have h3 := hA.1.2.2.2.1
  have h4 := hA.1.2.2.2.2.1
  have hyr := hS.2.2.2
  have e0 : xf A S g i = xmix A S g i 0 := by
    funext b; unfold xmix; rw [if_neg (by omega)]
  unfold f_X13_aYear
  rw [e0]
  refine for_until (fun j n => l_X13_aYear_4 T (fun w12 w13 m14 => if aIn ((m14 141 11) + 1) then (some (aup m14 141 11 ((m14 141 11) + 1))).bind fun m17 => some (w12, m17) else none) n ((msk (goes A S i) j : Nat) : Int) (j : Int) (setc M 141 (xmix A S g i j))) (A 0 3) (fun j n hj => ?_) (fun n => ?_) (by omega)
  · have hmj := mv_ne hm (n := 141) (by omega) (xmix A S g i j)
    have hLj : LM (setc M 141 (xmix A S g i j)) A (dS S) := by
      unfold LM at hL ⊢
      rw [setc_ne (by decide), setc_ne (by decide)]; exact hL
    have hx : ∀ f, f < A 0 4 → (setc M 141 (xmix A S g i j)) 141 (6 + f) = S (6 + f) := by
      intro f hf
      rw [setc_at]
      unfold xmix xf xs
      rw [if_neg (by omega), if_pos (by omega), if_neg (by omega), if_neg (by omega), if_neg (by omega)]
    have ev : (setc M 141 (xmix A S g i j)) 141 j = ((vt A S j i).1 : Int) := by
      rw [setc_at]; unfold xmix xf xs
      rw [if_neg (by omega), if_pos (by omega), if_pos hj]
    have ec : (setc M 141 (xmix A S g i j)) 141 (3 + j) = (vt A S j i).2 := by
      rw [setc_at]; unfold xmix xf xs
      rw [if_neg (by omega), if_pos (by omega), if_neg (by omega), if_pos (by omega), show 3 + j - 3 = j by omega]
    have ok := vt_ok hA hS hj i
    show l_X13_aYear_4 T _ (n + 1) ((msk (goes A S i) j : Nat) : Int) (j : Int) (setc M 141 (xmix A S g i j)) = l_X13_aYear_4 T _ n ((msk (goes A S i) (j + 1) : Nat) : Int) ((j + 1 : Nat) : Int) (setc M 141 (xmix A S g i (j + 1)))
    rw [l_X13_aYear_4, hmj.1, Int.toNat_natCast, hmj.2.2.1.2.2.2.2.2.2.2.1]
    refine c_ite hmj.2.1 (c_neg (by omega) (c_bind (g_goesTo ⟨hA, hS, hmj, hLj, hx⟩ hj ok.1 ok.2 ev ec) ?_))
    have hms := msk_step (p := goes A S i) (n := j) (by omega) (goes A S i j) rfl
    have hg31 := msk_lt31 (goes A S i) (n := j) (by omega)
    by_cases hy2 : ys A S (A 5 j) (vt A S j i).1 (vt A S j i).2 = (vt A S j i).1
    · have evv : vt A S j (i + 1) = vt A S j i := if_pos hy2
      have hgo : goes A S i j = false := by unfold goes; rw [evv, decide_eq_true rfl]; rfl
      refine c_bind (v := ((0 : Int), setc M 141 (xmix A S g i j))) ?_ ?_
      · unfold f_X13_comesTo
        refine c_ite (by omega) (c_pos ?_ rfl)
        rw [Int.toNat_natCast, ev, hy2]
      · refine c_pos rfl (c_ite (by omega) ?_)
        rw [if_neg (by rw [hgo]; decide)] at hms
        rw [aor_0 hg31, hms]
        have : xmix A S g i (j + 1) = xmix A S g i j := by
          funext b
          unfold xmix
          by_cases hb : b = j
          · rw [if_pos (by omega), if_neg (by omega), hb, xf_v hA hj, xf_v hA hj, evv]
          · by_cases hb2 : b = 3 + j
            · rw [if_pos (by omega), if_neg (by omega), hb2, xf_c hA hj, xf_c hA hj, evv]
            · by_cases h5 : b < j ∨ (3 ≤ b ∧ b < 3 + j)
              · rw [if_pos h5, if_pos (by omega)]
              · rw [if_neg h5, if_neg (by omega)]
        rw [this]; rfl
    · have evv : vt A S j (i + 1) = (ys A S (A 5 j) (vt A S j i).1 (vt A S j i).2, ((vt A S j i).1 : Int)) := if_neg hy2
      have hgo : goes A S i j = true := by
        unfold goes
        rw [evv, decide_eq_false]
        · rfl
        · exact hy2
      refine c_bind (v := ((1 : Int), setc M 141 (xmix A S g i (j + 1)))) ?_ ?_
      · unfold f_X13_comesTo
        rw [Int.toNat_natCast, ev, show (3 + (j : Int)).toNat = 3 + j by omega]
        refine c_ite (by omega) (c_neg (by omega) (c_ite (by omega) (c_ite (by omega) (c_some (c_some ?_)))))
        rw [aup_setc, aup_setc]
        have : (fun b => if b = j then ((ys A S (A 5 j) (vt A S j i).1 (vt A S j i).2 : Nat) : Int) else if b = 3 + j then ((vt A S j i).1 : Int) else xmix A S g i j b) = xmix A S g i (j + 1) := by
          funext b
          by_cases hb : b = j
          · rw [if_pos hb]
            unfold xmix xf xs
            rw [if_pos (by omega), if_pos (by omega), if_pos (by omega), hb, evv]
          · rw [if_neg hb]
            by_cases hb2 : b = 3 + j
            · rw [if_pos hb2]
              unfold xmix xf xs
              rw [if_pos (by omega), if_pos (by omega), if_neg (by omega), if_pos (by omega), show b - 3 = j by omega, evv]
            · rw [if_neg hb2]
              unfold xmix
              by_cases h5 : b < j ∨ (3 ≤ b ∧ b < 3 + j)
              · rw [if_pos h5, if_pos (by omega)]
              · rw [if_neg h5, if_neg (by omega)]
        rw [this]
      · refine c_neg (show ¬ (1 : Int) = 0 by decide) (c_ite (by omega) ?_)
        rw [if_pos hgo] at hms
        rw [hms]; rfl
  · have hmj := mv_ne hm (n := 141) (by omega) (xmix A S g i (A 0 3))
    show l_X13_aYear_4 T _ (n + 1) ((msk (goes A S i) (A 0 3) : Nat) : Int) ((A 0 3 : Nat) : Int) (setc M 141 (xmix A S g i (A 0 3))) = _
    rw [l_X13_aYear_4, hmj.1, Int.toNat_natCast, hmj.2.2.1.2.2.2.2.2.2.2.1]
    have e11 : xmix A S g i (A 0 3) 11 = S 11 + (i : Int) := by
      unfold xmix xf xs
      rw [if_neg (by omega), if_pos (by omega), if_neg (by omega), if_neg (by omega), if_pos rfl]
    refine c_ite hmj.2.1 (c_pos (Int.le_refl _) ?_)
    rw [setc_at, e11]
    refine c_ite (by omega) (c_some ?_)
    rw [aup_setc]
    have : (fun b => if b = 11 then S 11 + (i : Int) + 1 else xmix A S g i (A 0 3) b) = xf A S g (i + 1) := by
      funext b
      by_cases hb : b = 11
      · rw [if_pos hb, hb]
        unfold xf xs
        rw [if_pos (by omega), if_neg (by omega), if_neg (by omega), if_pos rfl]
        omega
      · rw [if_neg hb]
        unfold xmix
        by_cases h5 : b < A 0 3 ∨ (3 ≤ b ∧ b < 3 + A 0 3)
        · rw [if_pos h5]
        · rw [if_neg h5]
          unfold xf xs
          by_cases h12 : b < 12
          · rw [if_pos h12, if_pos h12, if_neg (by omega), if_neg (by omega), if_neg hb, if_neg (by omega), if_neg (by omega), if_neg hb]
          · rw [if_neg h12, if_neg h12]
    rw [this]
/-- the model at work, as a row of years begins -/
theorem MK.yr (hA : WF A) (hS : WS A S) (h : MK T M w A S) : M = setc M 141 (xf A S (M 141) 0) := by
  rw [← xf_0 hS (f := M 141) (g := M 141) h.2.2.1 (fun _ _ => rfl), setc_self]
/-- after -/
def sp_after (A : aA) (S : Nat → Int) (v n : Int) : Int × Int := if inr v (A 0 3) then (if 0 ≤ n ∧ n ≤ 60 then (((vt A S v.toNat n.toNat).1 : Int), 0) else (-1, 2)) else (-1, 1)
theorem c_after (h : CQ M A S) (v n : Int) : opC (f_X11_after T v n M) M (sp_after A S v n) := by
  have hh := h
  obtain ⟨hA, hS, hC, hs, hL, hF⟩ := h
  unfold f_X11_after sp_after
  refine oC_isVoice hC (fun hn => ?_) (fun v' hv hlt => ?_)
  · rw [if_neg hn]; exact oC_ref
  · subst hv
    rw [if_pos (inr_of hlt)]
    by_cases h1 : n < 0
    · rw [if_neg (by omega : ¬ (0 ≤ n ∧ n ≤ 60))]; exact oC_pos h1 oC_ref
    · refine oC_neg h1 ?_
      by_cases h2 : n ≤ 60
      · rw [if_pos (by omega : 0 ≤ n ∧ n ≤ 60)]
        obtain ⟨k, rfl⟩ : ∃ k : Nat, n = (k : Int) := ⟨n.toNat, by omega⟩
        refine oC_pos h2 (oC_bind (h_follow hh hlt (show ash 49 = (100, 217) from rfl) (by decide) (by omega) (by omega)) (oC_pos (by omega) ?_))
        show opC ((f_X11_allow T (setc M 49 (trl A S v' k (M 49)) 49 (k : Int).toNat) _).bind _) M _
        rw [setc_at, Int.toNat_natCast, Int.toNat_natCast]
        unfold trl
        rw [if_pos (Nat.le_refl k)]
        exact oC_al (sC_set (by decide))
      · rw [if_neg (by omega : ¬ (0 ≤ n ∧ n ≤ 60))]; exact oC_neg h2 oC_ref
theorem m_after (h : MD T M A S) (v n : Int) : opM (f_X13_after T v n M) M (sp_after A S v n) := by
  have hA := h.1
  have hS := h.2.1
  have h3 := hA.1.2.2.2.1
  unfold f_X13_after sp_after
  refine oM_bind rfl ?_
  have h1 : sM M (aup M 138 0 0) := sM_fl (by omega)
  have hm1 := h.of h1
  refine oM_bind (g_isVoice hm1 v) ?_
  by_cases hp : inr v (A 0 3)
  · rw [decide_eq_true hp, if_pos hp]
    obtain ⟨v', rfl, hlt⟩ := inr_nat hp
    by_cases h2 : 0 ≤ n ∧ n ≤ 60
    · rw [if_pos h2]
      obtain ⟨k, rfl⟩ : ∃ k : Nat, n = (k : Int) := ⟨n.toNat, by omega⟩
      refine oM_bind (v := 0) ?_ (oM_pos (by decide) ?_)
      · unfold f_X13_refusesYears
        refine c_neg (by decide) (c_bind (v := 1) ?_ rfl)
        unfold f_X13_in
        rw [if_neg (by omega), if_neg (by omega)]
      · obtain ⟨w, hw⟩ := hm1.has (by omega)
        refine oM_bind (hm1.works hw) ?_
        have hk := hm1.mk hw
        have hsm := h1.trans (sM_works (M := aup M 138 0 0) (A := A) (dr := dS S))
        generalize worksM (aup M 138 0 0) A (dS S) = M1 at hk hsm
        have hyr := hk.yr hA hS
        have key : ∀ kk : Int → aM → Option (Int × aM), l_X13_after_33 T (v' : Int) (k : Int) kk FU 0 M1 = kk (k : Int) (setc M1 141 (xf A S (M1 141) k)) := by
          intro kk
          have := for_until (fun i n => l_X13_after_33 T (v' : Int) (k : Int) kk n (i : Int) (setc M1 141 (xf A S (M1 141) i))) (y := kk (k : Int) (setc M1 141 (xf A S (M1 141) k))) k (fun i n hi => ?_) (fun n => ?_) (by omega)
          · have t2 : l_X13_after_33 T (v' : Int) (k : Int) kk FU ((0 : Nat) : Int) (setc M1 141 (xf A S (M1 141) 0)) = _ := this
            rw [← hyr] at t2
            exact t2
          · show l_X13_after_33 T (v' : Int) (k : Int) kk (n + 1) (i : Int) _ = l_X13_after_33 T (v' : Int) (k : Int) kk n ((i + 1 : Nat) : Int) _
            rw [l_X13_after_33]
            refine c_neg (by omega) (c_bind (g_aYear hA hS hk.1 hk.2.1 (by omega)) (c_ite (by omega) rfl))
          · show l_X13_after_33 T (v' : Int) (k : Int) kk (n + 1) (k : Int) _ = _
            rw [l_X13_after_33]
            exact c_pos (Int.le_refl _) rfl
        show opM (l_X13_after_33 T (v' : Int) (k : Int) _ FU 0 M1) M _
        rw [key]
        refine oM_pos (by omega) ?_
        rw [setc_at, Int.toNat_natCast, xf_v hA hlt, Int.toNat_natCast]
        exact oM_good (hsm.trans (sM_set (by omega)))
    · rw [if_neg h2]
      refine oM_bind (v := 2) ?_ (oM_neg (by decide) (oM_ref h1))
      unfold f_X13_refusesYears
      refine c_neg (by decide) (c_bind (v := 0) ?_ rfl)
      unfold f_X13_in
      by_cases h5 : n < 0
      · rw [if_pos h5]
      · rw [if_neg h5, if_pos (by omega)]
  · rw [decide_eq_false hp, if_neg hp]
    exact oM_bind (v := 1) rfl (oM_neg (by decide) (oM_ref h1))
end Yrs
