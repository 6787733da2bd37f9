/-! ===== year, call: the class ===== -/
section Yca
variable {A : aA} {T w : Nat} {M M1 : aM} {r : Int × Int} {st : aT}
def gy (A : aA) (S : Nat → Int) (k : Nat) : Nat := ys A S (A 5 k) (S k).toNat (S (3 + k))
def gc (A : aA) (S : Nat → Int) (c k : Nat) : Nat := cst A (dS S) (A 5 k) (S k).toNat c
def yrd (A : aA) (S : Nat → Int) : Nat → Int := fun k => if k = 11 then S 11 + 1 else mvd S (gy A S) (A 0 3) k
/-- the class in the middle of moves -/
def MR (M2 : aM) (A : aA) (S : Nat → Int) (g : Nat → Nat) (j : Nat) (Z : aM) : Prop := (∀ k, k < A 0 3 → Z 36 k = mvd S g j k ∧ Z 37 k = mvd S g j (3 + k)) ∧ ∀ n, n ≠ 36 → n ≠ 37 → Z n = M2 n
theorem MR_0 {M2 : aM} {S : Nat → Int} {g : Nat → Nat} (hA : WF A) (h : CS M2 35 A S) : MR M2 A S g 0 M2 := by
  have h3 := hA.1.2.2.2.1
  refine ⟨fun k hk => ?_, fun _ _ _ => rfl⟩
  rw [mvd_v (by omega) (by omega), mvd_c (by omega) (by omega), if_neg (Nat.not_lt_zero k), if_neg (Nat.not_lt_zero k)]
  exact h.1 k hk
theorem MR_at {M2 Z : aM} {S : Nat → Int} {g : Nat → Nat} {j : Nat} (hA : WF A) (hj : j < A 0 3) (h : MR M2 A S g j Z) : Z 36 j = S j ∧ Z 37 j = S (3 + j) := by
  have h3 := hA.1.2.2.2.1
  have hz := h.1 j hj
  rw [mvd_v (by omega) (by omega), if_neg (Nat.lt_irrefl _), mvd_c (by omega) (by omega), if_neg (Nat.lt_irrefl _)] at hz
  exact hz
theorem CT_same (h : CT M A) (e : ∀ n, 2 ≤ n → n ≤ 15 → M1 n = M n) : CT M1 A := by
  unfold CT at h ⊢
  rw [e 2 (by decide) (by decide), e 3 (by decide) (by decide), e 4 (by decide) (by decide), e 5 (by decide) (by decide), e 6 (by decide) (by decide), e 7 (by decide) (by decide), e 8 (by decide) (by decide), e 9 (by decide) (by decide), e 10 (by decide) (by decide), e 11 (by decide) (by decide), e 12 (by decide) (by decide), e 13 (by decide) (by decide), e 14 (by decide) (by decide), e 15 (by decide) (by decide)]
  exact h
theorem CY_of {M2 Z : aM} {S : Nat → Int} {g : Nat → Nat} {j : Nat} (h : CQ M2 A S) (hz : MR M2 A S g j Z) : CY Z A S := by
  refine ⟨h.1, h.2.1, CT_same h.2.2.1 fun n h1 h2 => hz.2 n (by omega) (by omega), fun f hf => ?_, LD_same h.2.2.2.2.1 fun n h1 h2 => hz.2 n (by omega) (by omega)⟩
  rw [hz.2 38 (by decide) (by decide)]
  exact h.2.2.2.1.2.1 f hf
theorem CQ_keep {M2 : aM} {S : Nat → Int} (h : CQ M A S) (k3 : ∀ n, n < 59 ∨ 125 < n → M2 n = M n) : CQ M2 A S := h.of2 fun n h1 h2 => k3 n (by omega)
theorem h_yearLoop {M2 : aM} {S : Nat → Int} (h : CQ M2 A S) (kk : Int → Int → aM → Option (Int × aM)) : ∃ Z, MR M2 A S (gy A S) (A 0 3) Z ∧ l_X11_year_47 T kk FU 0 0 M2 = kk ((msk (mvs S (gy A S)) (A 0 3) : Nat) : Int) (A 0 3) Z := by
  have hA := h.1
  have h3 := hA.1.2.2.2.1
  obtain ⟨Z, hZ, n, hrun⟩ := for_inv (fun n j (Z : aM) => l_X11_year_47 T kk n ((msk (mvs S (gy A S)) j : Nat) : Int) (j : Int) Z) (MR M2 A S (gy A S)) (A 0 3) (fun j n Z hj hZ => by
    have hcy := CY_of h hZ
    obtain ⟨z1, z2⟩ := MR_at hA hj hZ
    have hv := h.2.1.1 j hj
    have hstep := h_yearStep (T := T) hcy (kind := A 5 j) (c := (S j).toNat) (came := S (3 + j)) (by omega) hv.2.2
    obtain ⟨Y, y1, y2, y3⟩ := h_move (T := T) hA hj hZ.1
    have hms := msk_step (p := mvs S (gy A S)) (n := j) (by omega) (mvs S (gy A S) j) rfl
    refine ⟨Y, ⟨y2, fun n h1 h2 => by rw [y3 n h1 h2]; exact hZ.2 n h1 h2⟩, ?_⟩
    show l_X11_year_47 T kk (n + 1) ((msk (mvs S (gy A S)) j : Nat) : Int) (j : Int) Z = l_X11_year_47 T kk n ((msk (mvs S (gy A S)) (j + 1) : Nat) : Int) ((j + 1 : Nat) : Int) Y
    rw [l_X11_year_47, hcy.2.2.1.1 3 (by decide), Int.toNat_natCast, (hcy.2.2.1.2.2.2.2.1 j hj).1, z1, z2]
    refine c_neg (by omega) (c_ite (by omega) ?_)
    rw [show S j = (((S j).toNat : Nat) : Int) by omega]
    refine c_bind hstep (c_bind y1 ?_)
    cases hb : mvs S (gy A S) j
    · rw [hb, if_neg (by decide)] at hms
      refine c_pos rfl (c_ite (by omega) ?_)
      rw [hms]; rfl
    · rw [hb, if_pos rfl] at hms
      refine c_neg (show ¬ bI true = 0 by decide) (c_ite (by omega) ?_)
      rw [hms]; rfl) (by omega) M2 (MR_0 hA h.2.2.2.1)
  refine ⟨Z, hZ, ?_⟩
  have hrun2 : l_X11_year_47 T kk FU 0 0 M2 = l_X11_year_47 T kk (n + 1) ((msk (mvs S (gy A S)) (A 0 3) : Nat) : Int) ((A 0 3 : Nat) : Int) Z := hrun
  rw [hrun2, l_X11_year_47, (CY_of h hZ).2.2.1.1 3 (by decide)]
  exact c_pos (Int.le_refl _) rfl
theorem h_callLoop {M2 : aM} {S : Nat → Int} (h : CQ M2 A S) {c : Nat} (hc : c < A 0 1) (kk : Int → Int → aM → Option (Int × aM)) : ∃ Z, MR M2 A S (gc A S c) (A 0 3) Z ∧ l_X11_call_29 T (c : Int) kk FU 0 0 M2 = kk ((msk (mvs S (gc A S c)) (A 0 3) : Nat) : Int) (A 0 3) Z := by
  have hA := h.1
  have h3 := hA.1.2.2.2.1
  obtain ⟨Z, hZ, n, hrun⟩ := for_inv (fun n j (Z : aM) => l_X11_call_29 T (c : Int) kk n ((msk (mvs S (gc A S c)) j : Nat) : Int) (j : Int) Z) (MR M2 A S (gc A S c)) (A 0 3) (fun j n Z hj hZ => by
    have hcy := CY_of h hZ
    obtain ⟨z1, z2⟩ := MR_at hA hj hZ
    have hv := h.2.1.1 j hj
    have hstep := h_callStep (T := T) hA hcy.2.2.1 hcy.2.2.2.2 (kind := A 5 j) (c := (S j).toNat) (t := c) (by omega) hc
    obtain ⟨Y, y1, y2, y3⟩ := h_move (T := T) hA hj hZ.1
    have hms := msk_step (p := mvs S (gc A S c)) (n := j) (by omega) (mvs S (gc A S c) j) rfl
    refine ⟨Y, ⟨y2, fun n h1 h2 => by rw [y3 n h1 h2]; exact hZ.2 n h1 h2⟩, ?_⟩
    show l_X11_call_29 T (c : Int) kk (n + 1) ((msk (mvs S (gc A S c)) j : Nat) : Int) (j : Int) Z = l_X11_call_29 T (c : Int) kk n ((msk (mvs S (gc A S c)) (j + 1) : Nat) : Int) ((j + 1 : Nat) : Int) Y
    rw [l_X11_call_29, hcy.2.2.1.1 3 (by decide), Int.toNat_natCast, (hcy.2.2.1.2.2.2.2.1 j hj).1, z1]
    refine c_neg (by omega) (c_ite (by omega) ?_)
    rw [show S j = (((S j).toNat : Nat) : Int) by omega]
    refine c_bind hstep (c_bind y1 ?_)
    cases hb : mvs S (gc A S c) j
    · rw [hb, if_neg (by decide)] at hms
      refine c_pos rfl (c_ite (by omega) ?_)
      rw [hms]; rfl
    · rw [hb, if_pos rfl] at hms
      refine c_neg (show ¬ bI true = 0 by decide) (c_ite (by omega) ?_)
      rw [hms]; rfl) (by omega) M2 (MR_0 hA h.2.2.2.1)
  refine ⟨Z, hZ, ?_⟩
  have hrun2 : l_X11_call_29 T (c : Int) kk FU 0 0 M2 = l_X11_call_29 T (c : Int) kk (n + 1) ((msk (mvs S (gc A S c)) (A 0 3) : Nat) : Int) ((A 0 3 : Nat) : Int) Z := hrun
  rw [hrun2, l_X11_call_29, (CY_of h hZ).2.2.1.1 3 (by decide)]
  exact c_pos (Int.le_refl _) rfl
def sp_year (A : aA) (st : aT) : (Int × Int) × aT := if 0 < A 0 0 then (if st.1 11 < 999 then ((((msk (mvs st.1 (gy A st.1)) (A 0 3) : Nat) : Int), 0), actd st (yrd A st.1)) else ((-1, 3), st)) else ((-1, 1), st)
theorem c_year (h : CA M A st) : opCA (f_X11_year T M) M A (sp_year A st).1 (sp_year A st).2 := by
  have hh := h
  obtain ⟨hq, hr, hi, h16, h3⟩ := h
  have hA := hq.1
  have hv3 := hA.1.2.2.2.1
  have hf4 := hA.1.2.2.2.2.1
  have hyr := hq.2.1.2.2.2
  unfold f_X11_year sp_year
  refine oA_well hq.2.2.1 (fun hn => ?_) (fun hp => ?_)
  · rw [if_neg hn]; exact oA_refn hh
  · rw [if_pos (show 0 < A 0 0 from hp), show M 35 4 = st.1 11 from hq.2.2.2.1.2.2.2]
    by_cases hy : st.1 11 < 999
    · refine oA_pos hy ?_
      rw [if_pos (show st.1 11 < 999 from hy)]
      obtain ⟨M2, k1, k2, k3, k4⟩ := h_keep (T := T) hA h16 hr hq.2.2.2.1
      refine oA_bind k1 ?_
      have hq2 := CQ_keep hq k3
      obtain ⟨Z, hZ, hrun⟩ := h_yearLoop (T := T) hq2 (fun w20 w21 m22 => if aIn ((m22 35 4) + 1) then (some (aup m22 35 4 ((m22 35 4) + 1))).bind fun m25 => (f_X11_allow T w20 m25).bind fun x27 => some (x27.1, x27.2) else none)
      rw [hrun]
      have z35 : Z 35 = M 35 := by rw [hZ.2 35 (by decide) (by decide), k3 35 (by omega)]
      have e4 : Z 35 4 = st.1 11 := by rw [z35]; exact hq.2.2.2.1.2.2.2
      rw [e4]
      refine oA_pos (by omega) (oA_bind rfl ?_)
      have e : ∀ n, n ≠ 35 → aup Z 35 4 (st.1 11 + 1) n = Z n := fun n hn => aup_nc hn
      refine (oA_all (st := actd st (yrd A st.1)) ?_ ?_ ?_ ?_ h3 ?_ ?_).2 _
      · refine ⟨fun k hk => ?_, fun k hk => ?_, ?_, ?_⟩
        · rw [e _ (by omega), e _ (by omega)]
          show Z 36 k = yrd A st.1 k ∧ Z 37 k = yrd A st.1 (3 + k)
          unfold yrd
          rw [if_neg (by omega), if_neg (by omega)]
          exact hZ.1 k hk
        · rw [e _ (by omega)]
          show Z 38 k = yrd A st.1 (6 + k)
          unfold yrd
          rw [if_neg (by omega), mvd_o hv3 (by omega), hZ.2 38 (by decide) (by decide), k3 38 (by omega)]
          exact hq.2.2.2.1.2.1 k hk
        · rw [aup_ne2 (by decide), z35]
          show M 35 3 = yrd A st.1 10
          unfold yrd
          rw [if_neg (by decide), mvd_o hv3 (by omega)]
          exact hq.2.2.2.1.2.2.1
        · rw [aup_at]; rfl
      · have ew : yrd A st.1 10 = st.1 10 := by unfold yrd; rw [if_neg (by decide), mvd_o hv3 (by omega)]
        show LD _ 39 A (dry (yrd A st.1 10).toNat)
        rw [ew]
        exact LD_same hq.2.2.2.2.1 fun n h1 h2 => by rw [e n (by omega), hZ.2 n (by omega) (by omega), k3 n (by omega)]
      · exact RG_same k2 fun n h1 h2 => by rw [e n (by omega), hZ.2 n (by omega) (by omega)]
      · exact IG_same h3 hi (by rw [e 59 (by decide), hZ.2 59 (by decide) (by decide), k4 4 (by decide) (by decide)]) fun n h1 h2 => by rw [e n (by omega), hZ.2 n (by omega) (by omega), k3 n (by omega)]
      · rw [e 0 (by decide), hZ.2 0 (by decide) (by decide), k3 0 (by omega)]
      · intro n hn; rw [e n (by omega), hZ.2 n (by omega) (by omega), k3 n (by omega)]
    · refine oA_neg hy ?_
      rw [if_neg (show ¬ st.1 11 < 999 from hy)]
      exact oA_refn hh
def sp_call (A : aA) (st : aT) (c : Int) : (Int × Int) × aT := if inr c (A 0 1) then ((((msk (mvs st.1 (gc A st.1 c.toNat)) (A 0 3) : Nat) : Int), 0), actd st (mvd st.1 (gc A st.1 c.toNat) (A 0 3))) else ((-1, 1), st)
theorem c_call (h : CA M A st) (c : Int) : opCA (f_X11_call T c M) M A (sp_call A st c).1 (sp_call A st c).2 := by
  have hh := h
  obtain ⟨hq, hr, hi, h16, h3⟩ := h
  have hA := hq.1
  have hv3 := hA.1.2.2.2.1
  have hf4 := hA.1.2.2.2.2.1
  unfold f_X11_call sp_call
  refine oA_isCave hq.2.2.1 (fun hn => ?_) (fun c' hc hlt => ?_)
  · rw [if_neg hn]; exact oA_refn hh
  · subst hc
    rw [if_pos (show inr ((c' : Nat) : Int) (A 0 1) from inr_of hlt), Int.toNat_natCast]
    obtain ⟨M2, k1, k2, k3, k4⟩ := h_keep (T := T) hA h16 hr hq.2.2.2.1
    refine oA_bind k1 ?_
    have hq2 := CQ_keep hq k3
    obtain ⟨Z, hZ, hrun⟩ := h_callLoop (T := T) hq2 hlt (fun w19 w20 m21 => (f_X11_allow T w19 m21).bind fun x23 => some (x23.1, x23.2))
    rw [hrun]
    have z35 : Z 35 = M 35 := by rw [hZ.2 35 (by decide) (by decide), k3 35 (by omega)]
    refine (oA_all (st := actd st (mvd st.1 (gc A st.1 c') (A 0 3))) ?_ ?_ ?_ ?_ h3 ?_ ?_).2 _
    · refine ⟨fun k hk => hZ.1 k hk, fun k hk => ?_, ?_, ?_⟩
      · show Z 38 k = mvd st.1 (gc A st.1 c') (A 0 3) (6 + k)
        rw [mvd_o hv3 (by omega), hZ.2 38 (by decide) (by decide), k3 38 (by omega)]
        exact hq.2.2.2.1.2.1 k hk
      · rw [z35]
        show M 35 3 = mvd st.1 (gc A st.1 c') (A 0 3) 10
        rw [mvd_o hv3 (by omega)]
        exact hq.2.2.2.1.2.2.1
      · rw [z35]
        show M 35 4 = mvd st.1 (gc A st.1 c') (A 0 3) 11
        rw [mvd_o hv3 (by omega)]
        exact hq.2.2.2.1.2.2.2
    · have ew : mvd st.1 (gc A st.1 c') (A 0 3) 10 = st.1 10 := mvd_o hv3 (by omega)
      show LD _ 39 A (dry (mvd st.1 (gc A st.1 c') (A 0 3) 10).toNat)
      rw [ew]
      exact LD_same hq.2.2.2.2.1 fun n h1 h2 => by rw [hZ.2 n (by omega) (by omega), k3 n (by omega)]
    · exact RG_same k2 fun n h1 h2 => by rw [hZ.2 n (by omega) (by omega)]
    · exact IG_same h3 hi (by rw [hZ.2 59 (by decide) (by decide), k4 4 (by decide) (by decide)]) fun n h1 h2 => by rw [hZ.2 n (by omega) (by omega), k3 n (by omega)]
    · rw [hZ.2 0 (by decide) (by decide), k3 0 (by omega)]
    · intro n hn; rw [hZ.2 n (by omega) (by omega), k3 n (by omega)]
end Yca
