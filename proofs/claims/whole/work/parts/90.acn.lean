/-! ===== acts of the model: walk, undo, image, back, year, call ===== -/
section Acn
variable {A : aA} {T w : Nat} {M M1 Z : aM} {r : Int × Int} {st : aT}
theorem m_walk (h : MA T M A st) (f c : Int) : opMA (f_X13_walk T f c M) M (sp_walk A st f c).1 (sp_walk A st f c).2 := by
  have hA := h.1.1
  have h8 := hA.1.2.1
  have hf4 := hA.1.2.2.2.2.1
  have hs : sM M (aup M 138 0 0) := sM_fl (by omega)
  have h1 := h.of hs
  unfold f_X13_walk sp_walk
  refine pM_bind rfl ?_
  refine pM_isFolk h1.1 (fun hn => ?_) (fun f' hf hlt => ?_)
  · rw [if_neg (show ¬ (inr f (A 0 4) ∧ inr c (A 0 1)) from fun h => hn h.1)]; exact pM_den (h.fin hs)
  · refine pM_isCave h1.1 (fun hn => ?_) (fun c' hc hlt2 => ?_)
    · rw [if_neg (show ¬ (inr f (A 0 4) ∧ inr c (A 0 1)) from fun h => hn h.2)]; exact pM_den (h.fin hs)
    · subst hf hc
      rw [if_pos (show inr ((f' : Nat) : Int) (A 0 4) ∧ inr ((c' : Nat) : Int) (A 0 1) from ⟨inr_of hlt, inr_of hlt2⟩), Int.toNat_natCast, Int.toNat_natCast]
      obtain ⟨w, hw⟩ := h1.1.has (by omega)
      obtain ⟨q, hq1, hq2⟩ := h.1.2.1.fo hlt
      refine pM_bind (h1.1.works hw) ?_
      have hsw := hs.trans (sM_works (M := aup M 138 0 0) (A := A) (dr := dS st.1))
      have hmk := h1.1.mk hw
      generalize worksM (aup M 138 0 0) A (dS st.1) = W at hsw hmk
      have h2 := h.of hsw
      have e140 : W 140 (6 + f') = (q : Int) := (hmk.2.2.2 (6 + f') (by omega)).trans hq1
      have e145 : W 145 q = (nr A (dS st.1) q : Int) := hmk.2.1.1 q (by omega)
      show opMA (if aIn (6 + (f' : Int)) then if 0 ≤ 6 + (f' : Int) ∧ 6 + (f' : Int) < 12 then if 0 ≤ W 140 (6 + (f' : Int)).toNat ∧ W 140 (6 + (f' : Int)).toNat < 8 then (f_X13_bit T (W 145 (W 140 (6 + (f' : Int)).toNat).toNat) (c' : Int) W).bind fun x21 => if x21 = 0 then (f_X13_denied T 5 W).bind fun x35 => if x35.1 = 0 ∨ x35.1 = 1 then some (x35.1, x35.2) else none else (f_X13_remembers T W).bind fun x24 => (some (aup x24.2 140 (6 + (f' : Int)).toNat (c' : Int))).bind fun m28 => (f_X13_granted T m28).bind fun x30 => if x30.1 = 0 ∨ x30.1 = 1 then some (x30.1, x30.2) else none else none else none else none) M _ _
      rw [show (6 + (f' : Int)).toNat = 6 + f' by omega, e140, Int.toNat_natCast, e145, hq1, Int.toNat_natCast]
      refine pM_pos (by omega) (pM_pos (by omega) (pM_pos (by omega) (pM_bind (h_bit (Nat.lt_trans (nr_lt A _ q) (by decide)) (by omega)) ?_)))
      rw [nr_bit hA]
      cases ha : adj A (dS st.1) q c'
      · rw [if_neg (show ¬ false = true by decide)]
        exact pM_pos rfl (pM_den (h.fin hsw))
      · rw [if_pos (show true = true from rfl)]
        obtain ⟨Y, y1, ⟨p1, p2⟩, ⟨q1, q2⟩, y4, y5, y6, y7⟩ := g_rem h2
        refine pM_neg (by decide) (pM_bind y1 (pM_bind rfl (pM_gra (st := actd st (wlk st.1 f' c')) ⟨fun j hj => ?_, ⟨by rw [aup_nc (by decide)]; exact p1, fun i j hi hj => by rw [aup_nc (by decide)]; exact p2 i j hi hj⟩, ⟨by rw [aup_nc (by decide)]; exact q1, fun i j hi hj => by rw [aup_nc (by decide)]; exact q2 i j hi hj⟩, ((kM_sM hsw).trans y5).trans (kM_up (by omega))⟩)))
        show aup Y 140 (6 + f') (c' : Int) 140 j = wlk st.1 f' c' j
        unfold wlk
        by_cases hj2 : j = 6 + f'
        · rw [if_pos hj2, hj2, aup_at]
        · rw [if_neg hj2, aup_ne2 hj2]; exact y4.2.2.2 j hj
theorem pM_well (h : MD T Z A st.1) {x y : Option (Int × aM)} {s1 : aT} (h1 : ¬ 0 < A 0 0 → opMA x M r s1) (h2 : 0 < A 0 0 → opMA y M r s1) : opMA (if Z 138 3 < 0 then x else y) M r s1 := by
  rcases h.2.2.1 with ⟨h0, hn⟩ | ⟨h0, w, m1, m2, m3⟩
  · exact pM_pos (by rw [hn]; decide) (h1 (by omega))
  · exact pM_neg (by rw [m1]; omega) (h2 (by omega))
theorem m_undo (h : MA T M A st) : opMA (f_X13_undo T M) M (sp_undo st).1 (sp_undo st).2 := by
  have hs : sM M (aup M 138 0 0) := sM_fl (by omega)
  have h1 := h.of hs
  unfold f_X13_undo sp_undo
  refine pM_bind rfl ?_
  refine pM_well h1.1 (fun hn => ?_) (fun hp => ?_)
  · have := h.2.2.2.2.2 (by omega)
    rw [if_pos (show st.2.1 = 0 from this.1)]
    exact pM_den (h.fin hs)
  · have e20 : aup M 138 0 0 138 20 = (st.2.1 : Int) := h1.2.1.1
    rw [e20]
    by_cases h0 : st.2.1 = 0
    · rw [if_pos (show st.2.1 = 0 from h0)]
      exact pM_pos (by omega) (pM_den (h.fin hs))
    · rw [if_neg (show ¬ st.2.1 = 0 from h0)]
      refine pM_neg (by omega) (pM_pos (by have := h.2.2.2.1; omega) (pM_bind rfl ?_))
      have hk : kM M (aup (aup M 138 0 0) 138 20 ((st.2.1 : Int) - 1)) := (kM_sM hs).trans (kM_fl (by omega))
      have z20 : aup (aup M 138 0 0) 138 20 ((st.2.1 : Int) - 1) 138 20 = ((st.2.1 - 1 : Nat) : Int) := by rw [aup_at]; omega
      have z142 : aup (aup M 138 0 0) 138 20 ((st.2.1 : Int) - 1) 142 = M 142 := by rw [aup_nc (by decide), aup_nc (by decide)]
      have z143 : aup (aup M 138 0 0) 138 20 ((st.2.1 : Int) - 1) 143 = M 143 := by rw [aup_nc (by decide), aup_nc (by decide)]
      have z21 : aup (aup M 138 0 0) 138 20 ((st.2.1 : Int) - 1) 138 21 = M 138 21 := by rw [aup_ne2 (by decide), aup_ne2 (by decide)]
      generalize aup (aup M 138 0 0) 138 20 ((st.2.1 : Int) - 1) = Y at hk z20 z142 z143 z21
      rw [g_undo38 (show st.2.1 - 1 < 16 by have := h.2.2.2.1; omega) z20]
      refine pM_gra (st := (st.2.2.2.1 (st.2.1 - 1), st.2.1 - 1, st.2.2.1, st.2.2.2.1, st.2.2.2.2)) ⟨fun j hj => ?_, ⟨by rw [setc_ne (by decide)]; exact z20, fun i j hi hj => ?_⟩, ⟨by rw [setc_ne (by decide), z21]; exact h.2.2.1.1, fun i j hi hj => ?_⟩, hk.trans (kM_set (by omega))⟩
      · rw [setc_at, if_pos hj, z142]
        exact h.2.1.2 (st.2.1 - 1) j (by omega) hj
      · rw [setc_ne (by decide), z142]
        exact h.2.1.2 i j (by have : i < st.2.1 - 1 := hi; omega) hj
      · rw [setc_ne (by decide), z143]
        exact h.2.2.1.2 i j hi hj
theorem m_image (h : MA T M A st) : opMA (f_X13_image T M) M (sp_image A st).1 (sp_image A st).2 := by
  have hs : sM M (aup M 138 0 0) := sM_fl (by omega)
  have h1 := h.of hs
  have h3 := h.2.2.2.2.1
  unfold f_X13_image sp_image
  refine pM_bind rfl ?_
  refine pM_well h1.1 (fun hn => ?_) (fun hp => ?_)
  · rw [if_neg hn]; exact pM_ref (h.fin hs)
  · rw [if_pos (show 0 < A 0 0 from hp)]
    have e21 : aup M 138 0 0 138 21 = (st.2.2.1 : Int) := h1.2.2.1.1
    rw [e21]
    by_cases hlt : st.2.2.1 < 3
    · rw [if_pos (show st.2.2.1 < 3 from hlt)]
      refine pM_neg (by omega) ?_
      rw [g_image34 hlt e21]
      have hk := kM_sM hs
      have z140 := h1.1.2.2.2
      have zp := h1.2.1
      have zq := h1.2.2.1
      generalize aup M 138 0 0 = Y at hk z140 zp zq e21
      have f21 : setc Y 143 (ov12 (Y 143) (Y 140) (12 * st.2.2.1) 12) 138 21 = (st.2.2.1 : Int) := by rw [setc_ne (by decide)]; exact e21
      rw [f21]
      refine pM_pos (by omega) (pM_bind rfl ?_)
      rw [aup_at, show (st.2.2.1 : Int) + 1 - 1 = (st.2.2.1 : Int) by omega]
      refine pM_pos (by omega) (pM_good (st := (st.1, st.2.1, st.2.2.1 + 1, st.2.2.2.1, fun i => if i = st.2.2.1 then st.1 else st.2.2.2.2 i)) ⟨fun j hj => ?_, ⟨?_, fun i j hi hj => ?_⟩, ⟨?_, fun i j hi hj => ?_⟩, (hk.trans (kM_set (by omega))).trans (kM_fl (by omega))⟩)
      · rw [aup_nc (by decide), setc_ne (by decide)]; exact z140 j hj
      · rw [aup_ne2 (by decide), setc_ne (by decide)]; exact zp.1
      · rw [aup_nc (by decide), setc_ne (by decide)]; exact zp.2 i j hi hj
      · rw [aup_at]; show (st.2.2.1 : Int) + 1 = ((st.2.2.1 + 1 : Nat) : Int); omega
      · rw [aup_nc (by decide), setc_at]
        show ov12 (Y 143) (Y 140) (12 * st.2.2.1) 12 (12 * i + j) = (if i = st.2.2.1 then st.1 else st.2.2.2.2 i) j
        have hi2 : i < st.2.2.1 + 1 := hi
        unfold ov12
        by_cases hin : i = st.2.2.1
        · rw [if_pos (by omega), if_pos hin, show 12 * i + j - 12 * st.2.2.1 = j by omega]; exact z140 j hj
        · rw [if_neg (by omega), if_neg hin]; exact zq.2 i j (by omega) hj
    · rw [if_neg (show ¬ st.2.2.1 < 3 from hlt)]
      exact pM_pos (by omega) (pM_ref (h.fin hs))
theorem m_back (h : MA T M A st) (i : Int) : opMA (f_X13_back T i M) M (sp_back st i).1 (sp_back st i).2 := by
  have hs : sM M (aup M 138 0 0) := sM_fl (by omega)
  have h1 := h.of hs
  have h3 := h.2.2.2.2.1
  unfold f_X13_back sp_back
  refine pM_bind rfl ?_
  refine pM_well h1.1 (fun hn => ?_) (fun hp => ?_)
  · have := (h.2.2.2.2.2 (by omega)).2
    rw [if_neg (show ¬ inr i st.2.2.1 by omega)]
    exact pM_den (h.fin hs)
  · have e21 : aup M 138 0 0 138 21 = (st.2.2.1 : Int) := h1.2.2.1.1
    rw [e21]
    by_cases h0 : i < 0
    · rw [if_neg (show ¬ inr i st.2.2.1 by omega)]
      exact pM_pos h0 (pM_den (h.fin hs))
    · refine pM_neg h0 ?_
      by_cases hlt : i < (st.2.2.1 : Int)
      · rw [if_pos (show inr i st.2.2.1 by omega)]
        obtain ⟨q, rfl⟩ : ∃ q : Nat, i = (q : Int) := ⟨i.toNat, by omega⟩
        rw [Int.toNat_natCast]
        refine pM_pos hlt ?_
        rw [g_back32 (show q < 3 by omega)]
        have hk := kM_sM hs
        have zp := h1.2.1
        have zq := h1.2.2.1
        generalize aup M 138 0 0 = Y at hk zp zq e21
        refine pM_bind rfl (pM_gra (st := (st.2.2.2.2 q, 0, st.2.2.1, st.2.2.2.1, st.2.2.2.2)) ⟨fun j hj => ?_, ⟨aup_at, fun i j hi hj => absurd hi (Nat.not_lt_zero i)⟩, ⟨?_, fun i j hi hj => ?_⟩, (hk.trans (kM_set (by omega))).trans (kM_fl (by omega))⟩)
        · rw [aup_nc (by decide), setc_at, if_pos hj]; exact zq.2 q j (by omega) hj
        · rw [aup_ne2 (by decide), setc_ne (by decide)]; exact e21
        · rw [aup_nc (by decide), setc_ne (by decide)]; exact zq.2 i j hi hj
      · rw [if_neg (show ¬ inr i st.2.2.1 by omega)]
        exact pM_neg hlt (pM_den (h.fin hs))
/-- a year, by the model's row -/
theorem xs_yrd {S : Nat → Int} (hA : WF A) (hS : WS A S) {k : Nat} (hk : k < 12) : xs A S 1 k = yrd A S k := by
  have h3 := hA.1.2.2.2.1
  have ev : ∀ v, vt A S v 1 = if ys A S (A 5 v) (S v).toNat (S (3 + v)) = (S v).toNat then ((S v).toNat, S (3 + v)) else (ys A S (A 5 v) (S v).toNat (S (3 + v)), (((S v).toNat : Nat) : Int)) := fun v => rfl
  unfold xs yrd
  by_cases h1 : k < A 0 3
  · rw [if_pos h1, if_neg (by omega), mvd_v h3 (by omega), if_pos h1, ev]
    show _ = ((ys A S (A 5 k) (S k).toNat (S (3 + k)) : Nat) : Int)
    split
    · rename_i h; rw [h]
    · rfl
  · rw [if_neg h1]
    by_cases h2 : 3 ≤ k ∧ k < 3 + A 0 3
    · obtain ⟨v, rfl⟩ : ∃ v, k = 3 + v := ⟨k - 3, by omega⟩
      have hv := hS.1 v (by omega)
      rw [if_pos h2, if_neg (by omega), mvd_c h3 (by omega), if_pos (by omega), show 3 + v - 3 = v by omega, ev]
      show _ = if S v = ((ys A S (A 5 v) (S v).toNat (S (3 + v)) : Nat) : Int) then S (3 + v) else S v
      by_cases h : ys A S (A 5 v) (S v).toNat (S (3 + v)) = (S v).toNat
      · rw [if_pos h, if_pos (by omega)]
      · rw [if_neg h, if_neg (by omega)]
        show (((S v).toNat : Nat) : Int) = S v
        omega
    · rw [if_neg h2]
      by_cases h11 : k = 11
      · rw [if_pos h11, if_pos h11]; rfl
      · rw [if_neg h11, if_neg h11]
        unfold mvd
        rw [if_neg h1, if_neg h2]
theorem goes_mvs {S : Nat → Int} (hS : WS A S) {k : Nat} (hk : k < A 0 3) : goes A S 0 k = mvs S (gy A S) k := by
  have hv := hS.1 k hk
  have ev : vt A S k 1 = if ys A S (A 5 k) (S k).toNat (S (3 + k)) = (S k).toNat then ((S k).toNat, S (3 + k)) else (ys A S (A 5 k) (S k).toNat (S (3 + k)), (((S k).toNat : Nat) : Int)) := rfl
  unfold goes mvs
  rw [ev]
  show (!decide (_ = (S k).toNat)) = !decide (S k = ((ys A S (A 5 k) (S k).toNat (S (3 + k)) : Nat) : Int))
  congr 1
  rw [decide_eq_decide]
  by_cases h : ys A S (A 5 k) (S k).toNat (S (3 + k)) = (S k).toNat
  · rw [if_pos h]
    exact ⟨fun _ => by omega, fun _ => rfl⟩
  · rw [if_neg h]
    exact ⟨fun h2 => absurd h2 h, fun h2 => absurd (by omega) h⟩
theorem m_year (h : MA T M A st) : opMA (f_X13_year T M) M (sp_year A st).1 (sp_year A st).2 := by
  have hA := h.1.1
  have hS := h.1.2.1
  have hs : sM M (aup M 138 0 0) := sM_fl (by omega)
  have h1 := h.of hs
  have hyr := hS.2.2.2
  unfold f_X13_year sp_year
  refine pM_bind rfl ?_
  refine pM_well h1.1 (fun hn => ?_) (fun hp => ?_)
  · rw [if_neg hn]; exact pM_ref (h.fin hs)
  · rw [if_pos (show 0 < A 0 0 from hp), show aup M 138 0 0 140 11 = st.1 11 from h1.1.2.2.2 11 (by decide)]
    by_cases hy : st.1 11 < 999
    · refine pM_neg (by omega) ?_
      rw [if_pos (show st.1 11 < 999 from hy)]
      obtain ⟨w, hw⟩ := h1.1.has (by omega)
      obtain ⟨Y, y1, ⟨p1, p2⟩, ⟨q1, q2⟩, y4, y5, y6, y7⟩ := g_rem h1
      have hwY := y7 w hw
      refine pM_bind y1 (pM_bind (y4.works hwY) ?_)
      have hmk := y4.mk hwY
      have hsw := sM_works (M := Y) (A := A) (dr := dS st.1)
      generalize worksM Y A (dS st.1) = W at hmk hsw
      have hyw := hmk.yr hA hS
      have hay := g_aYear (T := T) (g := W 141) (i := 0) hA hS hmk.1 hmk.2.1 (by decide)
      rw [← hyw] at hay
      refine pM_bind hay (pM_bind g_remains ?_)
      rw [show msk (goes A st.1 0) (A 0 3) = msk (mvs st.1 (gy A st.1)) (A 0 3) from msk_cong fun k hk => goes_mvs hS hk]
      refine pM_good (st := actd st (yrd A st.1)) ⟨fun j hj => ?_, ⟨?_, fun i j hi hj => ?_⟩, ⟨?_, fun i j hi hj => ?_⟩, (((kM_sM hs).trans y5).trans (kM_sM hsw)).trans ((kM_set (by omega)).trans (kM_set (by omega)))⟩
      · rw [setc_at, if_pos hj]
        show setc W 141 (xf A st.1 (W 141) 1) 141 j = yrd A st.1 j
        rw [setc_at]
        unfold xf
        rw [if_pos hj]
        exact xs_yrd hA hS hj
      · rw [setc_ne (by decide), setc_ne (by decide), hsw.1 20 (by omega)]; exact p1
      · rw [setc_ne (by decide), setc_ne (by decide), hsw.2 142 (by omega)]; exact p2 i j hi hj
      · rw [setc_ne (by decide), setc_ne (by decide), hsw.1 21 (by omega)]; exact q1
      · rw [setc_ne (by decide), setc_ne (by decide), hsw.2 143 (by omega)]; exact q2 i j hi hj
    · refine pM_pos (by omega) ?_
      rw [if_neg (show ¬ st.1 11 < 999 from hy)]
      exact pM_ref (h.fin hs)
/-- a call, by the model's row -/
def xcl (S : Nat → Int) (g : Nat → Nat) (h : Nat → Int) (j : Nat) : Nat → Int := fun b => if b < 12 then mvd S g j b else h b
theorem g_callLoop {S : Nat → Int} (hA : WF A) (hS : WS A S) (hk : MK T Z w A S) {c : Nat} (hc : c < A 0 1) (kk : Int → Int → aM → Option (Int × aM)) : l_X13_call_31 T (c : Int) kk FU 0 0 Z = kk ((msk (mvs S (gc A S c)) (A 0 3) : Nat) : Int) (A 0 3) (setc Z 141 (xcl S (gc A S c) (Z 141) (A 0 3))) := by
  have h3 := hA.1.2.2.2.1
  have e0 : setc Z 141 (xcl S (gc A S c) (Z 141) 0) = Z := by
    have : xcl S (gc A S c) (Z 141) 0 = Z 141 := by
      funext b
      unfold xcl mvd
      by_cases hb : b < 12
      · rw [if_pos hb, if_neg (Nat.not_lt_zero b), if_neg (by omega)]; exact (hk.2.2.1 b hb).symm
      · rw [if_neg hb]
    rw [this, setc_self]
  have := for_until (fun j n => l_X13_call_31 T (c : Int) kk n ((msk (mvs S (gc A S c)) j : Nat) : Int) (j : Int) (setc Z 141 (xcl S (gc A S c) (Z 141) j))) (y := kk ((msk (mvs S (gc A S c)) (A 0 3) : Nat) : Int) (A 0 3) (setc Z 141 (xcl S (gc A S c) (Z 141) (A 0 3)))) (A 0 3) (fun j n hj => ?_) (fun n => ?_) (by omega)
  · have t2 : l_X13_call_31 T (c : Int) kk FU 0 ((0 : Nat) : Int) (setc Z 141 (xcl S (gc A S c) (Z 141) 0)) = _ := this
    rw [e0] at t2; exact t2
  · obtain ⟨m1, m2, m3⟩ := mv_ne hk.1 (n := 141) (by omega) (xcl S (gc A S c) (Z 141) j)
    have hL : LM (setc Z 141 (xcl S (gc A S c) (Z 141) j)) A (dS S) := by
      have := hk.2.1
      unfold LM at this ⊢
      rw [setc_ne (by decide), setc_ne (by decide)]; exact this
    have hv := hS.1 j hj
    have ev : setc Z 141 (xcl S (gc A S c) (Z 141) j) 141 j = (((S j).toNat : Nat) : Int) := by
      rw [setc_at]; unfold xcl
      rw [if_pos (by omega), mvd_v (by omega) (by omega), if_neg (Nat.lt_irrefl _)]; omega
    have hst := g_calledTo (T := T) hA ⟨m1, m2, m3⟩ hL (kind := A 5 j) (c := (S j).toNat) (t := c) (by omega) hc
    have hms := msk_step (p := mvs S (gc A S c)) (n := j) (by omega) (mvs S (gc A S c) j) rfl
    have hg31 := msk_lt31 (mvs S (gc A S c)) (n := j) (by omega)
    show l_X13_call_31 T (c : Int) kk (n + 1) ((msk (mvs S (gc A S c)) j : Nat) : Int) (j : Int) (setc Z 141 (xcl S (gc A S c) (Z 141) j)) = l_X13_call_31 T (c : Int) kk n ((msk (mvs S (gc A S c)) (j + 1) : Nat) : Int) ((j + 1 : Nat) : Int) (setc Z 141 (xcl S (gc A S c) (Z 141) (j + 1)))
    rw [l_X13_call_31, m1, Int.toNat_natCast, m3.1.2.2.2.2.2.2.2.1, Int.toNat_natCast, (m3.2.2.1 j hj).1, ev]
    refine c_ite m2 (c_neg (by omega) (c_ite (by omega) (c_ite (by omega) (c_bind hst ?_))))
    by_cases he : S j = (gc A S c j : Int)
    · have hgo : mvs S (gc A S c) j = false := by unfold mvs; rw [decide_eq_true he]; rfl
      rw [hgo, if_neg (by decide)] at hms
      refine c_bind (v := ((0 : Int), setc Z 141 (xcl S (gc A S c) (Z 141) j))) ?_ ?_
      · unfold f_X13_comesTo
        refine c_ite (by omega) (c_pos ?_ rfl)
        rw [Int.toNat_natCast, ev]
        have : (gc A S c j : Int) = (((S j).toNat : Nat) : Int) := by omega
        exact this
      · refine c_pos rfl (c_ite (by omega) ?_)
        rw [aor_0 hg31, hms]
        have : xcl S (gc A S c) (Z 141) (j + 1) = xcl S (gc A S c) (Z 141) j := by
          funext b
          unfold xcl
          by_cases hb12 : b < 12
          · rw [if_pos hb12, if_pos hb12]
            by_cases hb : b = j
            · rw [hb, mvd_v (by omega) (by omega), mvd_v (by omega) (by omega), if_pos (by omega), if_neg (Nat.lt_irrefl _), he]
            · by_cases hb2 : b = 3 + j
              · rw [hb2, mvd_c (by omega) (by omega), mvd_c (by omega) (by omega), if_pos (by omega), if_neg (Nat.lt_irrefl _), if_pos he]
              · unfold mvd
                by_cases hlt : b < j
                · rw [if_pos (by omega), if_pos hlt]
                · rw [if_neg (by omega), if_neg hlt]
                  by_cases h5 : 3 ≤ b ∧ b < 3 + j
                  · rw [if_pos (by omega), if_pos h5]
                  · rw [if_neg (by omega), if_neg h5]
          · rw [if_neg hb12, if_neg hb12]
        rw [this]; rfl
    · have hgo : mvs S (gc A S c) j = true := by unfold mvs; rw [decide_eq_false he]; rfl
      rw [hgo, if_pos rfl] at hms
      refine c_bind (v := ((1 : Int), setc Z 141 (xcl S (gc A S c) (Z 141) (j + 1)))) ?_ ?_
      · unfold f_X13_comesTo
        rw [Int.toNat_natCast, ev, show (3 + (j : Int)).toNat = 3 + j by omega]
        have hne : ¬ (((cst A (dS S) (A 5 j) (S j).toNat c : Nat)) : Int) = (((S j).toNat : Nat) : Int) := fun hx => he (by have : (gc A S c j : Int) = ((cst A (dS S) (A 5 j) (S j).toNat c : Nat) : Int) := rfl; omega)
        refine c_ite (by omega) (c_neg hne (c_ite (by omega) (c_ite (by omega) (c_some (c_some ?_)))))
        rw [aup_setc, aup_setc]
        have : (fun b => if b = j then ((cst A (dS S) (A 5 j) (S j).toNat c : Nat) : Int) else if b = 3 + j then (((S j).toNat : Nat) : Int) else xcl S (gc A S c) (Z 141) j b) = xcl S (gc A S c) (Z 141) (j + 1) := by
          funext b
          by_cases hb : b = j
          · rw [if_pos hb, hb]
            unfold xcl
            rw [if_pos (by omega), mvd_v (by omega) (by omega), if_pos (by omega)]; rfl
          · rw [if_neg hb]
            by_cases hb2 : b = 3 + j
            · rw [if_pos hb2, hb2]
              unfold xcl
              rw [if_pos (by omega), mvd_c (by omega) (by omega), if_pos (by omega), if_neg he]; omega
            · rw [if_neg hb2]
              unfold xcl
              by_cases hb12 : b < 12
              · rw [if_pos hb12, if_pos hb12]
                unfold mvd
                by_cases hlt : b < j
                · rw [if_pos hlt, if_pos (show b < j + 1 by omega)]
                · rw [if_neg hlt, if_neg (show ¬ b < j + 1 by omega)]
                  by_cases h5 : 3 ≤ b ∧ b < 3 + j
                  · rw [if_pos h5, if_pos (show 3 ≤ b ∧ b < 3 + (j + 1) by omega)]
                  · rw [if_neg h5, if_neg (show ¬ (3 ≤ b ∧ b < 3 + (j + 1)) by omega)]
              · rw [if_neg hb12, if_neg hb12]
        rw [this]
      · refine c_neg (show ¬ (1 : Int) = 0 by decide) (c_ite (by omega) ?_)
        rw [hms]; rfl
  · obtain ⟨m1, m2, m3⟩ := mv_ne hk.1 (n := 141) (by omega) (xcl S (gc A S c) (Z 141) (A 0 3))
    show l_X13_call_31 T (c : Int) kk (n + 1) _ ((A 0 3 : Nat) : Int) _ = _
    rw [l_X13_call_31, m1, Int.toNat_natCast, m3.1.2.2.2.2.2.2.2.1]
    exact c_ite m2 (c_pos (Int.le_refl _) rfl)
theorem m_call (h : MA T M A st) (c : Int) : opMA (f_X13_call T c M) M (sp_call A st c).1 (sp_call A st c).2 := by
  have hA := h.1.1
  have hS := h.1.2.1
  have hs : sM M (aup M 138 0 0) := sM_fl (by omega)
  have h1 := h.of hs
  unfold f_X13_call sp_call
  refine pM_bind rfl ?_
  refine pM_isCave h1.1 (fun hn => ?_) (fun c' hc hlt => ?_)
  · rw [if_neg hn]; exact pM_ref (h.fin hs)
  · subst hc
    rw [if_pos (show inr ((c' : Nat) : Int) (A 0 1) from inr_of hlt), Int.toNat_natCast]
    obtain ⟨w, hw⟩ := h1.1.has (by omega)
    obtain ⟨Y, y1, ⟨p1, p2⟩, ⟨q1, q2⟩, y4, y5, y6, y7⟩ := g_rem h1
    have hwY := y7 w hw
    refine pM_bind y1 (pM_bind (y4.works hwY) ?_)
    have hmk := y4.mk hwY
    have hsw := sM_works (M := Y) (A := A) (dr := dS st.1)
    generalize worksM Y A (dS st.1) = W at hmk hsw
    show opMA (l_X13_call_31 T (c' : Int) _ FU 0 0 W) M _ _
    rw [g_callLoop hA hS hmk hlt]
    refine pM_bind g_remains (pM_good (st := actd st (mvd st.1 (gc A st.1 c') (A 0 3))) ⟨fun j hj => ?_, ⟨?_, fun i j hi hj => ?_⟩, ⟨?_, fun i j hi hj => ?_⟩, (((kM_sM hs).trans y5).trans (kM_sM hsw)).trans ((kM_set (by omega)).trans (kM_set (by omega)))⟩)
    · rw [setc_at, if_pos hj, setc_at]
      show xcl st.1 (gc A st.1 c') (W 141) (A 0 3) j = mvd st.1 (gc A st.1 c') (A 0 3) j
      unfold xcl
      rw [if_pos hj]
    · rw [setc_ne (by decide), setc_ne (by decide), hsw.1 20 (by omega)]; exact p1
    · rw [setc_ne (by decide), setc_ne (by decide), hsw.2 142 (by omega)]; exact p2 i j hi hj
    · rw [setc_ne (by decide), setc_ne (by decide), hsw.1 21 (by omega)]; exact q1
    · rw [setc_ne (by decide), setc_ne (by decide), hsw.2 143 (by omega)]; exact q2 i j hi hj
end Acn
