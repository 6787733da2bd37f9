/-! ===== far, next, hearers, heardFrom ===== -/
def tol (n : Nat) : Int := if n < 9999 then (n : Int) else -2
section Opa
variable {A : aA} {S : Nat → Int} {T e : Nat} {M M0 : aM} {dr : Nat → Bool}
theorem h_span (hL : LD M e A dr) (hA : WF A) {c t : Nat} (hc : c < A 0 1) (ht : t < 8) : f_X5_span T e (c : Int) (t : Int) M = some (cl (dst A dr c t) : Int) := by
  have h8 := hA.1.2.1
  unfold f_X5_span
  refine c_ite (by omega) (c_ite (by omega) (c_ite (by omega) ?_))
  rw [show ((c : Int) * 8 + (t : Int)).toNat = 8 * c + t by omega, hL.2 c t hc ht]
theorem h_orNo (n : Nat) (h : n ≤ 9999) : f_X11_orNo T (cl n : Int) M = some (tol n) := by
  unfold f_X11_orNo cl tol
  by_cases h1 : n < 9999
  · rw [if_pos h1, if_pos h1, if_pos (by omega)]
  · rw [if_neg h1, if_neg h1]; rfl
theorem cl_le {n l : Nat} (hl : l < 9999) : ((cl n : Nat) : Int) ≤ (l : Int) ↔ n ≤ l := by
  unfold cl
  split <;> omega
theorem cl_lt {n l : Nat} (hl : l < 9999) : (l : Int) < ((cl n : Nat) : Int) ↔ l < n := by
  unfold cl
  split <;> omega
theorem g_apart (h : LM M A dr) {a b : Nat} (ha : a < 8) (hb : b < 8) : f_X13_apart T (a : Int) (b : Int) M = some (dst A dr a b : Int) := by
  unfold f_X13_apart
  refine c_ite (by omega) (c_ite (by omega) (c_ite (by omega) ?_))
  rw [show (8 * (a : Int) + (b : Int)).toNat = 8 * a + b by omega, h.2 a b ha hb]
theorem g_told (n : Nat) : f_X13_told T (n : Int) M = some (tol n) := by
  unfold f_X13_told tol
  by_cases h1 : n < 9999
  · rw [if_pos h1, if_pos (by omega)]
  · rw [if_neg h1, if_neg (by omega)]
/-- how far -/
def sp_far (A : aA) (S : Nat → Int) (c t : Int) : Int × Int := gd (inr c (A 0 1) ∧ inr t (A 0 1)) (tol (dst A (dS S) c.toNat t.toNat)) 1
theorem c_far (h : CQ M A S) (c t : Int) : opC (f_X11_far T c t M) M (sp_far A S c t) := by
  obtain ⟨hA, hS, hC, hs, hL, hF⟩ := h
  have h8 := hA.1.2.1
  unfold f_X11_far sp_far
  refine oC_isCave hC (fun hn => ?_) (fun c' hc hlt => ?_)
  · rw [gd_neg (fun h => hn h.1)]; exact oC_ref
  · refine oC_isCave hC (fun hn => ?_) (fun t' ht hlt2 => ?_)
    · rw [gd_neg (fun h => hn h.2)]; exact oC_ref
    · subst hc ht
      rw [gd_pos ⟨inr_of hlt, inr_of hlt2⟩]
      refine oC_bind (h_span hL hA hlt (by omega)) (oC_bind (h_orNo _ (dst_le hA _ _)) ?_)
      exact oC_al (sC.refl M)
theorem m_far (h : MD T M A S) (c t : Int) : opM (f_X13_far T c t M) M (sp_far A S c t) := by
  have h8 := h.1.1.2.1
  unfold f_X13_far sp_far
  refine oM_bind rfl ?_
  have h1 : sM M (aup M 138 0 0) := sM_fl (by omega)
  have hm1 := h.of h1
  refine oM_isCave hm1 (fun hn => ?_) (fun c' hc hlt => ?_)
  · rw [gd_neg (fun h => hn h.1)]; exact oM_ref h1
  · refine oM_isCave hm1 (fun hn => ?_) (fun t' ht hlt2 => ?_)
    · rw [gd_neg (fun h => hn h.2)]; exact oM_ref h1
    · subst hc ht
      rw [gd_pos ⟨inr_of hlt, inr_of hlt2⟩]
      obtain ⟨w, hw⟩ := hm1.has (by omega)
      refine oM_bind (hm1.works hw) (oM_bind (g_apart worksM_LM (by omega) (by omega)) (oM_bind (g_told _) ?_))
      exact oM_good (h1.trans sM_works)
/-- the first step -/
def stp (A : aA) (dr : Nat → Bool) (c t : Nat) (x : Nat) : Bool := adj A dr c x && decide (A 4 (wy A c x) + dst A dr x t = dst A dr c t)
def towd (A : aA) (dr : Nat → Bool) (c t : Nat) : Int := if c = t ∨ ¬ dst A dr c t < 9999 then -2 else (fst (stp A dr c t) (A 0 1) : Int)
theorem stp_ex (hA : WF A) {c t : Nat} (h1 : c ≠ t) (h2 : dst A dr c t < 9999) : fst (stp A dr c t) (A 0 1) < A 0 1 ∧ stp A dr c t (fst (stp A dr c t) (A 0 1)) = true := by
  obtain ⟨k, x, hk, hd, hj, hx⟩ := isQ_first (dst_isQ hA dr) hA.len c _ t rfl (fun e => h1 e.symm) h2
  have hxN := (jn_lt hA hk hj).2.1
  have hp : stp A dr c t x = true := by
    unfold stp
    rw [adj_jn hA hk hd hj, wy_eq hA hk hj, decide_eq_true hx]; rfl
  have hlt : fst (stp A dr c t) (A 0 1) < A 0 1 := by
    rcases Nat.lt_or_ge (fst (stp A dr c t) (A 0 1)) (A 0 1) with h | h
    · exact h
    · have := fst_no (stp A dr c t) (A 0 1) x (by omega)
      rw [hp] at this; cases this
  exact ⟨hlt, fst_yes _ _ hlt⟩
theorem stp_small (hA : WF A) {c t x : Nat} (hx : adj A dr c x = true) : A 4 (wy A c x) ≤ 20 := by
  unfold adj at hx
  rw [Bool.and_eq_true, decide_eq_true_eq] at hx
  exact (hA.len20 _ hx.1).2
theorem adj_wy {c x : Nat} (hx : adj A dr c x = true) : wy A c x < A 0 2 := by
  unfold adj at hx
  rw [Bool.and_eq_true, decide_eq_true_eq] at hx
  exact hx.1
theorem h_wayB (hC : CT M A) (hA : WF A) {a b : Nat} (ha : a < 8) (hb : b < 8) : f_X10_wayBetween T 2 (a : Int) (b : Int) M = some (if wy A a b < A 0 2 then (wy A a b : Int) else -1) := by
  have h10 := hA.1.2.2.1
  have e : M (2 + 5) (8 * a + b) = if wy A a b < A 0 2 then (wy A a b : Int) + 1 else 0 := hC.2.2.2.1 a b ha hb
  unfold f_X10_wayBetween
  refine c_ite (by omega) (c_ite (by omega) (c_ite (by omega) ?_))
  rw [show ((a : Int) * 8 + (b : Int)).toNat = 8 * a + b by omega, e]
  by_cases h : wy A a b < A 0 2
  · rw [if_pos h, if_pos h]
    refine c_ite (by omega) ?_
    rw [show (wy A a b : Int) + 1 - 1 = (wy A a b : Int) by omega]
  · rw [if_neg h, if_neg h]
    exact c_ite (by omega) rfl
theorem h_firstStep (hC : CT M A) (hL : LD M e A dr) (hA : WF A) {c t : Nat} (hc : c < A 0 1) (ht : t < A 0 1) : f_X5_firstStep T e (c : Int) (t : Int) M = some (towd A dr c t) := by
  have h8 := hA.1.2.1
  have h10 := hA.1.2.2.1
  unfold f_X5_firstStep towd
  by_cases h1 : c = t
  · rw [if_pos (by omega), if_pos (Or.inl h1)]
  · rw [if_neg (by omega)]
    refine c_bind (h_span hL hA hc (by omega)) ?_
    by_cases h2 : dst A dr c t < 9999
    · rw [if_neg (not_or.mpr ⟨h1, fun h => h h2⟩)]
      refine c_pos (by unfold cl; rw [if_pos h2]; omega) ?_
      have hex := stp_ex hA h1 h2
      have := find_loop (fun n i => l_X5_firstStep_21 T e (c : Int) (t : Int) M (fun w23 => some (-2)) n i) (A 0 1) (stp A dr c t) (fun i => some (i : Int)) (y := some (-2)) (by omega) ?_ ?_ ?_
      · rw [if_pos hex.1] at this
        exact this
      · intro x n hx hp
        show l_X5_firstStep_21 T e (c : Int) (t : Int) M _ (n + 1) (x : Int) = _
        rw [l_X5_firstStep_21]
        refine c_neg (by rw [hC.1 1 (by decide)]; omega) (c_ite (by omega) ?_)
        rw [Int.toNat_natCast, hL.1 c (by omega)]
        refine c_bind (h_hasBit (Nat.lt_trans (nr_lt A dr c) (by decide)) (by omega)) ?_
        rw [nr_bit hA]
        cases ha : adj A dr c x
        · exact c_pos rfl (c_ite (by omega) rfl)
        · have hwy := adj_wy ha
          have hlen := stp_small (t := t) hA ha
          refine c_neg (by decide) (c_bind (h_wayB hC hA (by omega) (by omega)) ?_)
          rw [if_pos hwy]
          refine c_neg (by omega) (c_ite (by omega) (c_bind (h_span hL hA hx (by omega)) ?_))
          have hd := dst_140 (dr := dr) (b := t) hA hx
          have hle := dst_le (dr := dr) hA x t
          rw [Int.toNat_natCast, (hC.2.2.1 _ hwy).2.2]
          refine c_ite (by unfold cl; split <;> omega) (c_bind (h_span hL hA hc (by omega)) ?_)
          refine c_neg ?_ (c_ite (by omega) rfl)
          unfold stp at hp
          rw [ha, Bool.true_and, decide_eq_false_iff_not] at hp
          have hd2 := dst_140 (dr := dr) (b := t) hA hc h2
          unfold cl
          rw [if_pos h2]
          split <;> omega
      · intro x n hx hp
        show l_X5_firstStep_21 T e (c : Int) (t : Int) M _ (n + 1) (x : Int) = _
        rw [l_X5_firstStep_21]
        refine c_neg (by rw [hC.1 1 (by decide)]; omega) (c_ite (by omega) ?_)
        rw [Int.toNat_natCast, hL.1 c (by omega)]
        refine c_bind (h_hasBit (Nat.lt_trans (nr_lt A dr c) (by decide)) (by omega)) ?_
        rw [nr_bit hA]
        unfold stp at hp
        rw [Bool.and_eq_true, decide_eq_true_eq] at hp
        have hwy := adj_wy hp.1
        have hlen := stp_small (t := t) hA hp.1
        rw [hp.1]
        refine c_neg (by decide) (c_bind (h_wayB hC hA (by omega) (by omega)) ?_)
        rw [if_pos hwy]
        refine c_neg (by omega) (c_ite (by omega) (c_bind (h_span hL hA hx (by omega)) ?_))
        have hd2 := dst_140 (dr := dr) (b := t) hA hc h2
        rw [Int.toNat_natCast, (hC.2.2.1 _ hwy).2.2]
        refine c_ite (by unfold cl; split <;> omega) (c_bind (h_span hL hA hc (by omega)) ?_)
        refine c_pos ?_ rfl
        unfold cl
        rw [if_pos h2, if_pos (by omega)]
        omega
      · intro n
        show l_X5_firstStep_21 T e (c : Int) (t : Int) M _ (n + 1) ((A 0 1 : Nat) : Int) = _
        rw [l_X5_firstStep_21]
        exact c_pos (by rw [hC.1 1 (by decide)]; exact Int.le_refl _) rfl
    · rw [if_pos (Or.inr h2)]
      refine c_neg ?_ rfl
      unfold cl
      rw [if_neg h2]; omega
theorem g_wway {w : Nat} (hm : MW M w A) (hA : WF A) {a b : Nat} : f_X12_way T w (a : Int) (b : Int) M = some (if wy A a b < A 0 2 then (wy A a b : Int) else -1) := by
  have h10 := hA.1.2.2.1
  unfold f_X12_way
  have := find_loop (fun n i => l_X12_way_2 T w (a : Int) (b : Int) M (fun w13 => some (-1)) n i) (A 0 2) (wyp A a b) (fun i => some (i : Int)) (y := some (-1)) (by omega) ?_ ?_ ?_
  · have e : l_X12_way_2 T w (a : Int) (b : Int) M (fun w13 => some (-1)) FU 0 = if wy A a b < A 0 2 then some ((wy A a b : Nat) : Int) else some (-1) := this
    rw [e]
    split <;> rfl
  · intro k n hk hp
    obtain ⟨q1, q2, -⟩ := hm.2.1 k hk
    show l_X12_way_2 T w (a : Int) (b : Int) M _ (n + 1) (k : Int) = _
    rw [l_X12_way_2, Int.toNat_natCast, q1, q2]
    refine c_neg (by rw [hm.1.2.2.2.2.2.1]; omega) (c_ite (by omega) ?_)
    have hj : ¬ jn (A 2) (A 3) k a b := fun h => by rw [wyp_jn.mpr h] at hp; cases hp
    unfold jn at hj
    by_cases e1 : A 2 k = a
    · refine c_pos (by omega) ?_
      refine c_neg (by omega) ?_
      by_cases e2 : A 2 k = b
      · refine c_pos (by omega) (c_neg (by omega) (c_ite (by omega) rfl))
      · exact c_neg (by omega) (c_ite (by omega) rfl)
    · refine c_neg (by omega) ?_
      by_cases e2 : A 2 k = b
      · refine c_pos (by omega) (c_neg (by omega) (c_ite (by omega) rfl))
      · exact c_neg (by omega) (c_ite (by omega) rfl)
  · intro k n hk hp
    obtain ⟨q1, q2, -⟩ := hm.2.1 k hk
    show l_X12_way_2 T w (a : Int) (b : Int) M _ (n + 1) (k : Int) = _
    rw [l_X12_way_2, Int.toNat_natCast, q1, q2]
    refine c_neg (by rw [hm.1.2.2.2.2.2.1]; omega) (c_ite (by omega) ?_)
    have hj := wyp_jn.mp hp
    have hw := hA.2.2.1 k hk
    rcases hj with ⟨e1, e2⟩ | ⟨e1, e2⟩
    · exact c_pos (by omega) (c_pos (by omega) rfl)
    · refine c_neg (by omega) (c_pos (by omega) (c_pos (by omega) rfl))
  · intro n
    show l_X12_way_2 T w (a : Int) (b : Int) M _ (n + 1) ((A 0 2 : Nat) : Int) = _
    rw [l_X12_way_2]
    exact c_pos (by rw [hm.1.2.2.2.2.2.1]; exact Int.le_refl _) rfl
theorem g_length {w : Nat} (hm : MV T M w A) (hA : WF A) {a b : Nat} (h : wy A a b < A 0 2) : f_X13_lengthOf T (a : Int) (b : Int) M = some (A 4 (wy A a b) : Int) := by
  have h10 := hA.1.2.2.1
  unfold f_X13_lengthOf
  rw [hm.1, Int.toNat_natCast]
  refine c_ite hm.2.1 (c_bind (g_wway hm.2.2 hA) ?_)
  rw [if_pos h]
  refine c_ite (by omega) ?_
  rw [Int.toNat_natCast, (hm.2.2.2.1 _ h).2.2]
theorem g_towards {w : Nat} (hm : MV T M w A) (hL : LM M A dr) (hA : WF A) {c t : Nat} (hc : c < A 0 1) (ht : t < A 0 1) : f_X13_towards T (c : Int) (t : Int) M = some (towd A dr c t) := by
  have h8 := hA.1.2.1
  have h10 := hA.1.2.2.1
  unfold f_X13_towards towd
  by_cases h1 : c = t
  · rw [if_pos (by omega), if_pos (Or.inl h1)]
  · rw [if_neg (by omega)]
    refine c_bind (g_apart hL (by omega) (by omega)) ?_
    by_cases h2 : dst A dr c t < 9999
    · rw [if_neg (not_or.mpr ⟨h1, fun h => h h2⟩)]
      refine c_pos (by omega) ?_
      have hex := stp_ex hA h1 h2
      have hle := dst_le (dr := dr) hA
      refine for_until (fun i n => l_X13_towards_22 T (c : Int) (t : Int) M (fun w19 => some w19) n (i : Int)) (fst (stp A dr c t) (A 0 1)) ?_ ?_ (by omega)
      · intro x n hx
        have hp := fst_no _ _ x hx
        have hl := hle x t
        show l_X13_towards_22 T (c : Int) (t : Int) M _ (n + 1) (x : Int) = l_X13_towards_22 T (c : Int) (t : Int) M _ n ((x + 1 : Nat) : Int)
        rw [l_X13_towards_22]
        refine c_ite (by omega) ?_
        rw [Int.toNat_natCast, hL.1 c (by omega)]
        refine c_bind (h_bit (Nat.lt_trans (nr_lt A dr c) (by decide)) (by omega)) ?_
        rw [nr_bit hA]
        cases ha : adj A dr c x
        · exact c_pos rfl (c_ite (by omega) rfl)
        · have hwy := adj_wy ha
          have hlen := stp_small (t := t) hA ha
          refine c_neg (by decide) (c_bind (g_length hm hA hwy) (c_bind (g_apart hL (by omega) (by omega)) (c_ite (by omega) (c_bind (g_apart hL (by omega) (by omega)) ?_))))
          refine c_neg ?_ (c_ite (by omega) rfl)
          unfold stp at hp
          rw [ha, Bool.true_and, decide_eq_false_iff_not] at hp
          omega
      · intro n
        show l_X13_towards_22 T (c : Int) (t : Int) M _ (n + 1) ((fst (stp A dr c t) (A 0 1) : Nat) : Int) = _
        obtain ⟨hx, hp⟩ := hex
        generalize fst (stp A dr c t) (A 0 1) = x at hx hp ⊢
        have hl := hle x t
        rw [l_X13_towards_22]
        refine c_ite (by omega) ?_
        rw [Int.toNat_natCast, hL.1 c (by omega)]
        refine c_bind (h_bit (Nat.lt_trans (nr_lt A dr c) (by decide)) (by omega)) ?_
        rw [nr_bit hA]
        unfold stp at hp
        rw [Bool.and_eq_true, decide_eq_true_eq] at hp
        have hwy := adj_wy hp.1
        have hlen := stp_small (t := t) hA hp.1
        rw [hp.1]
        refine c_neg (by decide) (c_bind (g_length hm hA hwy) (c_bind (g_apart hL (by omega) (by omega)) (c_ite (by omega) (c_bind (g_apart hL (by omega) (by omega)) ?_))))
        exact c_pos (by omega) rfl
    · rw [if_pos (Or.inr h2)]
      exact c_neg (by omega) rfl
def sp_next (A : aA) (S : Nat → Int) (c t : Int) : Int × Int := gd (inr c (A 0 1) ∧ inr t (A 0 1)) (towd A (dS S) c.toNat t.toNat) 1
theorem c_next (h : CQ M A S) (c t : Int) : opC (f_X11_next T c t M) M (sp_next A S c t) := by
  obtain ⟨hA, hS, hC, hs, hL, hF⟩ := h
  unfold f_X11_next sp_next
  refine oC_isCave hC (fun hn => ?_) (fun c' hc hlt => ?_)
  · rw [gd_neg (fun h => hn h.1)]; exact oC_ref
  · refine oC_isCave hC (fun hn => ?_) (fun t' ht hlt2 => ?_)
    · rw [gd_neg (fun h => hn h.2)]; exact oC_ref
    · subst hc ht
      rw [gd_pos ⟨inr_of hlt, inr_of hlt2⟩]
      exact oC_bind (h_firstStep hC hL hA hlt hlt2) (oC_al (sC.refl M))
theorem m_next (h : MD T M A S) (c t : Int) : opM (f_X13_next T c t M) M (sp_next A S c t) := by
  unfold f_X13_next sp_next
  refine oM_bind rfl ?_
  have h1 : sM M (aup M 138 0 0) := sM_fl (by omega)
  have hm1 := h.of h1
  refine oM_isCave hm1 (fun hn => ?_) (fun c' hc hlt => ?_)
  · rw [gd_neg (fun h => hn h.1)]; exact oM_ref h1
  · refine oM_isCave hm1 (fun hn => ?_) (fun t' ht hlt2 => ?_)
    · rw [gd_neg (fun h => hn h.2)]; exact oM_ref h1
    · subst hc ht
      rw [gd_pos ⟨inr_of hlt, inr_of hlt2⟩]
      obtain ⟨w, hw⟩ := hm1.has (by omega)
      exact oM_bind (hm1.works hw) (oM_bind (g_towards (mv_worksM hw) worksM_LM h.1 hlt hlt2) (oM_good (h1.trans sM_works)))
end Opa
