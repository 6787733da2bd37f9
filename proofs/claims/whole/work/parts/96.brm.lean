/-! ===== bring, bringAt, reach: the model ===== -/
section Brm
variable {A : aA} {S : Nat → Int} {T w : Nat} {M M0 Z : aM} {dr : Nat → Bool} {n cur : Nat} {o ky lev : Nat → Nat}
theorem aup_row {M : aM} {n k b : Nat} {v : Int} : aup M n k v n b = if b = k then v else M n b := by
  by_cases h : b = k
  · rw [if_pos h, h]; exact aup_at
  · rw [if_neg h]; exact aup_ne2 h
/-- a cave found, as it is noted -/
def fdM (Z : aM) (y n : Nat) (l b m : Int) : aM := aup (aup (aup (aup (aup Z 147 y l) 148 y b) 149 y m) 150 n (y : Int)) 138 31 ((n : Int) + 1)
theorem fd_138 {y n : Nat} {l b m : Int} : fdM Z y n l b m 138 31 = (n : Int) + 1 := aup_at
theorem fd_150 {y n : Nat} {l b m : Int} (j : Nat) : fdM Z y n l b m 150 j = if j = n then (y : Int) else Z 150 j := by
  unfold fdM
  rw [aup_nc (show (150 : Nat) ≠ 138 by decide), aup_row, aup_nc (show (150 : Nat) ≠ 149 by decide), aup_nc (show (150 : Nat) ≠ 148 by decide), aup_nc (show (150 : Nat) ≠ 147 by decide)]
theorem fd_149 {y n : Nat} {l b m : Int} (j : Nat) : fdM Z y n l b m 149 j = if j = y then m else Z 149 j := by
  unfold fdM
  rw [aup_nc (show (149 : Nat) ≠ 138 by decide), aup_nc (show (149 : Nat) ≠ 150 by decide), aup_row, aup_nc (show (149 : Nat) ≠ 148 by decide), aup_nc (show (149 : Nat) ≠ 147 by decide)]
theorem fd_148 {y n : Nat} {l b m : Int} (j : Nat) : fdM Z y n l b m 148 j = if j = y then b else Z 148 j := by
  unfold fdM
  rw [aup_nc (show (148 : Nat) ≠ 138 by decide), aup_nc (show (148 : Nat) ≠ 150 by decide), aup_nc (show (148 : Nat) ≠ 149 by decide), aup_row, aup_nc (show (148 : Nat) ≠ 147 by decide)]
theorem fd_147 {y n : Nat} {l b m : Int} (j : Nat) : fdM Z y n l b m 147 j = if j = y then l else Z 147 j := by
  unfold fdM
  rw [aup_nc (show (147 : Nat) ≠ 138 by decide), aup_nc (show (147 : Nat) ≠ 150 by decide), aup_nc (show (147 : Nat) ≠ 149 by decide), aup_nc (show (147 : Nat) ≠ 148 by decide), aup_row]
theorem fd_sM {y n : Nat} {l b m : Int} : sM Z (fdM Z y n l b m) := ((((sM_up (by decide)).trans (sM_up (by decide))).trans (sM_up (by decide))).trans (sM_up (by decide))).trans (sM_fl (by decide))
theorem fd_LM {y n : Nat} {l b m : Int} (h : LM Z A dr) : LM (fdM Z y n l b m) A dr := by
  have e1 : fdM Z y n l b m 144 = Z 144 := by unfold fdM; rw [aup_nc (by decide), aup_nc (by decide), aup_nc (by decide), aup_nc (by decide), aup_nc (by decide)]
  have e2 : fdM Z y n l b m 145 = Z 145 := by unfold fdM; rw [aup_nc (by decide), aup_nc (by decide), aup_nc (by decide), aup_nc (by decide), aup_nc (by decide)]
  unfold LM
  rw [e1, e2]
  exact h
theorem g_finds22 {y n : Nat} {l b m : Int} (hy : y < 8) (hn : n < 8) (h31 : Z 138 31 = (n : Int)) : b_X13_finds_22 T (y : Int) b m (y : Int) l Z = some (0, fdM Z y n l b m) := by
  unfold b_X13_finds_22
  refine c_ite (by omega) (c_some (c_ite (by omega) (c_some (c_some ?_))))
  rw [Int.toNat_natCast]
  have e : aup (aup (aup Z 147 y l) 148 y b) 149 y m 138 31 = (n : Int) := by rw [aup_nc (by decide), aup_nc (by decide), aup_nc (by decide)]; exact h31
  rw [e]
  refine c_ite (by omega) (c_some ?_)
  rw [Int.toNat_natCast]
  have e2 : aup (aup (aup (aup Z 147 y l) 148 y b) 149 y m) 150 n (y : Int) 138 31 = (n : Int) := by rw [aup_nc (by decide)]; exact e
  rw [e2]
  exact c_ite (by omega) rfl
/-- what is found, in the model's rows -/
def MB (Z : aM) (n : Nat) (o ky lev : Nat → Nat) : Prop := Z 138 31 = (n : Int) ∧ (∀ j, j < n → Z 150 j = (o j : Int) ∧ Z 147 (o j) = (lev j : Int) ∧ (0 < j → Z 148 (o j) = (o (ky j / 8) : Int) ∧ Z 149 (o j) = ((ky j % 8 : Nat) : Int))) ∧ ∀ c, c < 8 → (∀ j, j < n → o j ≠ c) → Z 147 c = 9999
theorem MB.add (h : MB Z n o ky lev) {y : Nat} (hy : ∀ j, j < n → o j ≠ y) (hk : cur / 8 < n) (hp : ∀ j, 0 < j → j < n → ky j / 8 < j) : MB (fdM Z y n ((lev (cur / 8) : Int) + 1) (o (cur / 8) : Int) ((cur % 8 : Nat) : Int)) (n + 1) (updn o n y) (updn ky n cur) (updn lev n (lev (cur / 8) + 1)) := by
  obtain ⟨a, b, c⟩ := h
  refine ⟨fd_138, fun j hj => ?_, fun x hx hn => ?_⟩
  · by_cases e : j = n
    · subst e
      rw [updn_at, updn_at, updn_at, updn_ne (show cur / 8 ≠ j by omega), fd_150, fd_147, fd_148, fd_149, if_pos rfl, if_pos rfl, if_pos rfl, if_pos rfl]
      exact ⟨rfl, rfl, fun _ => ⟨rfl, rfl⟩⟩
    · obtain ⟨b1, b2, b3⟩ := b j (by omega)
      have ne := hy j (by omega)
      rw [updn_ne e, updn_ne e, updn_ne e, fd_150, fd_147, fd_148, fd_149, if_neg e, if_neg ne, if_neg ne, if_neg ne]
      refine ⟨b1, b2, fun h0 => ?_⟩
      have := hp j h0 (by omega)
      rw [updn_ne (show ky j / 8 ≠ n by omega)]
      exact b3 h0
  · have h1 : x ≠ y := fun e => hn n (by omega) (by rw [updn_at, e])
    rw [fd_147, if_neg h1]
    refine c x hx fun j hj => ?_
    have := hn j (by omega)
    rw [updn_ne (by omega)] at this
    exact this
abbrev BTv (A : aA) (S : Nat → Int) (v n cur : Nat) (o ky lev : Nat → Nat) : Prop := BT (A 0 1) (S v).toNat (mth A) (cst A (dS S) (A 5 v)) n cur o ky lev
/-- what the rows hold when some are gone through -/
def RB (T : Nat) (M : aM) (w : Nat) (A : aA) (S : Nat → Int) (v cur : Nat) (Z : aM) : Prop := ∃ (n : Nat) (o ky lev : Nat → Nat), BTv A S v n cur o ky lev ∧ cur ≤ 8 * n ∧ MB Z n o ky lev ∧ sM M Z ∧ MV T Z w A ∧ LM Z A (dS S)
theorem g_brings56 (hA : WF A) {v i : Nat} (hv : v < A 0 3) (hZ : RB T M w A S v (8 * i) Z) (hi : ∀ n, Z 138 31 = ((n : Nat) : Int) → i < n) (kk : Int → aM → Option (Int × aM)) : ∃ Y, RB T M w A S v (8 * (i + 1)) Y ∧ l_X13_brings_56 T (v : Int) (i : Int) kk FU 0 Z = kk (A 0 1) Y := by
  have h8 := hA.1.2.1
  have h3 := hA.1.2.2.2.1
  have h256 := hA.2.1.2.2.2.1
  have hst : ∀ y m, y < A 0 1 → cst A (dS S) (A 5 v) y m < A 0 1 := fun y m hy => cst_lt hA hy
  have keyI := for_inv (fun n m (Z : aM) => l_X13_brings_56 T (v : Int) (i : Int) kk n (m : Int) Z) (fun m Z => ∃ (n : Nat) (o ky lev : Nat → Nat), BTv A S v n (8 * i + m) o ky lev ∧ i < n ∧ MB Z n o ky lev ∧ sM M Z ∧ MV T Z w A ∧ LM Z A (dS S)) (A 0 1) (fun m k Z hm hR => ?_) (by omega) Z (by
    obtain ⟨n, o, ky, lev, hB, hin, hM, hs, hm, hL⟩ := hZ
    exact ⟨n, o, ky, lev, hB, hi n hM.1, hM, hs, hm, hL⟩)
  · obtain ⟨Y, ⟨n, o, ky, lev, hB, hin, hM, hs, hm, hL⟩, m, hY⟩ := keyI
    refine ⟨Y, ⟨n, o, ky, lev, ?_, by omega, hM, hs, hm, hL⟩, ?_⟩
    · have := BT.skips hB (8 - A 0 1) (fun q h1 h2 => by omega)
      rw [show 8 * i + A 0 1 + (8 - A 0 1) = 8 * (i + 1) by omega] at this
      exact this
    · have e : l_X13_brings_56 T (v : Int) (i : Int) kk FU 0 Z = l_X13_brings_56 T (v : Int) (i : Int) kk (m + 1) ((A 0 1 : Nat) : Int) Y := hY
      rw [e, l_X13_brings_56, hm.1, Int.toNat_natCast, hm.2.2.1.2.2.2.1]
      exact c_ite hm.2.1 (c_pos (Int.le_refl _) rfl)
  · obtain ⟨n, o, ky, lev, hB, hin, hM, hs, hw, hL⟩ := hR
    have hn8 := hB.le
    have ei : (8 * i + m) / 8 = i := by omega
    have em : (8 * i + m) % 8 = m := by omega
    obtain ⟨b1, b2, b3⟩ := hM.2.1 i hin
    have ho := hB.2.1 i hin
    have hlv := hB.levj i hin
    have hlt := hst (o i) m ho
    have hstep : l_X13_brings_56 T (v : Int) (i : Int) kk (k + 1) (m : Int) Z = (if bI (mth A m) = 0 then l_X13_brings_56 T (v : Int) (i : Int) kk k ((m : Int) + 1) Z else if Z 147 (cst A (dS S) (A 5 v) (o i) m) = 9999 then (f_X13_finds T ((cst A (dS S) (A 5 v) (o i) m : Nat) : Int) (o i : Int) (m : Int) Z).bind (fun x36 => if aIn ((m : Int) + 1) then l_X13_brings_56 T (v : Int) (i : Int) kk k ((m : Int) + 1) x36.2 else none) else l_X13_brings_56 T (v : Int) (i : Int) kk k ((m : Int) + 1) Z) := by
      have e4 : Z w 4 = ((A 1 3 : Nat) : Int) := hw.2.2.1.2.2.2.2.1
      rw [l_X13_brings_56, hw.1, Int.toNat_natCast, hw.2.2.1.2.2.2.1, Int.toNat_natCast, Int.toNat_natCast, (hw.2.2.2.2.1 v hv).1, b1, e4]
      refine c_ite hw.2.1 (c_neg (by omega) (c_ite (by omega) (c_ite (by omega) (c_bind (g_calledTo hA hw hL ho hm) (c_bind (h_bit (by omega) (by omega)) ?_)))))
      by_cases hq : bI (mth A m) = 0
      · rw [if_pos hq, if_pos hq]
        exact c_ite (by omega) rfl
      · rw [if_neg hq, if_neg hq, Int.toNat_natCast]
        refine c_ite (by omega) ?_
        by_cases hq2 : Z 147 (cst A (dS S) (A 5 v) (o i) m) = 9999
        · rw [if_pos hq2, if_pos hq2]
        · rw [if_neg hq2, if_neg hq2]
          exact c_ite (by omega) rfl
    show ∃ s', _ ∧ l_X13_brings_56 T (v : Int) (i : Int) kk (k + 1) (m : Int) Z = l_X13_brings_56 T (v : Int) (i : Int) kk k ((m + 1 : Nat) : Int) s'
    rw [hstep]
    have hskip : (mth A m = true → ∃ j, j < n ∧ o j = cst A (dS S) (A 5 v) (o i) m) → BTv A S v n (8 * i + (m + 1)) o ky lev := by
      intro h
      refine (show BTv A S v n (8 * i + m + 1) o ky lev from BT.skip hB fun _ _ hmo => ?_)
      rw [ei, em]
      rw [em] at hmo
      exact h hmo
    cases hmo : mth A m
    · exact ⟨Z, ⟨n, o, ky, lev, hskip (fun e => by rw [hmo] at e; cases e), hin, hM, hs, hw, hL⟩, c_pos rfl rfl⟩
    · by_cases hfd : ∃ j, j < n ∧ o j = cst A (dS S) (A 5 v) (o i) m
      · refine ⟨Z, ⟨n, o, ky, lev, hskip (fun _ => hfd), hin, hM, hs, hw, hL⟩, c_neg (by decide) (c_neg ?_ rfl)⟩
        obtain ⟨j, hj, ej⟩ := hfd
        rw [← ej, (hM.2.1 j hj).2.1]
        have := hB.levj j hj
        omega
      · have hnf : ∀ j, j < n → o j ≠ cst A (dS S) (A 5 v) (o i) m := fun j hj e => hfd ⟨j, hj, e⟩
        have hfar := hM.2.2 (cst A (dS S) (A 5 v) (o i) m) (by omega) hnf
        have hadd := BT.add hB (by omega) (by omega) (by rw [em]; exact hmo) (by rw [ei, em]; exact hlt) (by rw [ei, em]; exact hnf)
        rw [ei, em] at hadd
        have hn9 := hadd.le
        have hMB := MB.add (cur := 8 * i + m) hM hnf (by omega) (fun j h0 hj => (hB.2.2.2.1 j h0 hj).1)
        rw [ei, em] at hMB
        refine ⟨_, ⟨n + 1, _, _, _, hadd, by omega, hMB, hs.trans fd_sM, hw.of fd_sM, fd_LM hL⟩, c_neg (by decide) (c_pos hfar ?_)⟩
        refine c_bind (v := (0, fdM Z (cst A (dS S) (A 5 v) (o i) m) n ((lev i : Int) + 1) (o i : Int) (m : Int))) ?_ (c_ite (by omega) rfl)
        unfold f_X13_finds
        rw [Int.toNat_natCast, b2]
        exact c_neg (by omega) (c_ite (by omega) (c_ite (by omega) (g_finds22 (by omega) (by omega) hM.1)))
theorem g_brings6 {v1 : Int} (kk : Int → aM → Option (Int × aM)) : l_X13_brings_6 T v1 kk FU 0 M = kk 8 (setc M 147 (ovr (M 147) 8 (fun _ => 9999))) := by
  have e0 : setc M 147 (ovr (M 147) 0 (fun _ => 9999)) = M := by
    rw [show ovr (M 147) 0 (fun _ => 9999) = M 147 from funext fun b => if_neg (Nat.not_lt_zero b)]
    exact setc_self
  have key := for_until (fun i n => l_X13_brings_6 T v1 kk n (i : Int) (setc M 147 (ovr (M 147) i (fun _ => 9999)))) (y := kk 8 (setc M 147 (ovr (M 147) 8 (fun _ => 9999)))) 8 (fun i n hi => ?_) (fun n => ?_) (by decide)
  · have e1 : l_X13_brings_6 T v1 kk FU 0 (setc M 147 (ovr (M 147) 0 (fun _ => 9999))) = _ := key
    rw [e0] at e1
    exact e1
  · show l_X13_brings_6 T v1 kk (n + 1) (i : Int) _ = l_X13_brings_6 T v1 kk n ((i + 1 : Nat) : Int) _
    rw [l_X13_brings_6]
    refine c_neg (by omega) (c_ite (by omega) (c_some (c_ite (by omega) ?_)))
    rw [Int.toNat_natCast, aup_setc]
    have e : (fun b => if b = i then (9999 : Int) else ovr (M 147) i (fun _ => 9999) b) = ovr (M 147) (i + 1) (fun _ => 9999) := by
      funext b
      unfold ovr
      by_cases h1 : b = i
      · rw [if_pos h1, if_pos (by omega)]; rfl
      · rw [if_neg h1]
        by_cases h2 : b < i
        · rw [if_pos h2, if_pos (by omega)]
        · rw [if_neg h2, if_neg (by omega)]
    rw [e]
    rfl
  · show l_X13_brings_6 T v1 kk (n + 1) 8 _ = _
    rw [l_X13_brings_6]
    exact c_pos (by decide) rfl
theorem g_brings (h : MD T M A S) (hw : MV T M w A) {v : Nat} (hv : v < A 0 3) : ∃ (Z : aM) (n : Nat) (o ky lev : Nat → Nat), f_X13_brings T (v : Int) M = some (0, Z) ∧ BTv A S v n (8 * n) o ky lev ∧ MB Z n o ky lev ∧ sM M Z := by
  have hA := h.1
  have h8 := hA.1.2.1
  have h3 := hA.1.2.2.2.1
  obtain ⟨c, hc, hlt⟩ := h.2.1.vo hv
  have hk := h.mk hw
  have hs1 := sM_works (M := M) (A := A) (dr := dS S)
  have hworks := h.works hw
  generalize worksM M A (dS S) = M1 at hk hs1 hworks
  have h6 := fun kk => g_brings6 (T := T) (M := M1) (v1 := (v : Int)) kk
  have hs2 : sM M1 (setc M1 147 (ovr (M1 147) 8 (fun _ => 9999))) := sM_set (by decide)
  have hL2 : LM (setc M1 147 (ovr (M1 147) 8 (fun _ => 9999))) A (dS S) := by
    unfold LM
    rw [setc_ne (by decide), setc_ne (by decide)]
    exact hk.2.1
  have e141 : setc M1 147 (ovr (M1 147) 8 (fun _ => 9999)) 141 v = (c : Int) := by
    rw [setc_ne (by decide), hk.2.2.1 v (by omega), hc]
  have e147 : ∀ x, x < 8 → setc M1 147 (ovr (M1 147) 8 (fun _ => 9999)) 147 x = 9999 := fun x hx => by rw [setc_at, ovr_at hx]; rfl
  have hw2 : MV T (setc M1 147 (ovr (M1 147) 8 (fun _ => 9999))) w A := hk.1.of hs2
  generalize setc M1 147 (ovr (M1 147) 8 (fun _ => 9999)) = M2 at hs2 hL2 e141 e147 hw2 h6
  have hs3 : sM M2 (aup M2 138 31 0) := sM_fl (by decide)
  have hs4 : sM M (fdM (aup M2 138 31 0) c 0 0 (-1) (-1)) := ((hs1.trans hs2).trans hs3).trans fd_sM
  have hL4 : LM (fdM (aup M2 138 31 0) c 0 0 (-1) (-1)) A (dS S) := by
    refine fd_LM ?_
    unfold LM
    rw [aup_nc (by decide), aup_nc (by decide)]
    exact hL2
  have hw4 : MV T (fdM (aup M2 138 31 0) c 0 0 (-1) (-1)) w A := (hw2.of hs3).of fd_sM
  have hB0 : BTv A S v 1 (8 * 0) (fun _ => c) (fun _ => 0) (fun _ => 0) := by
    refine ⟨⟨Nat.le_refl _, by rw [hc]; rfl, rfl⟩, fun j _ => hlt, fun i j h1 h2 => by omega, fun j h1 h2 => by omega, fun i j h1 h2 h3 => by omega, fun q hq => by omega⟩
  have hM0 : MB (fdM (aup M2 138 31 0) c 0 0 (-1) (-1)) 1 (fun _ => c) (fun _ => 0) (fun _ => 0) := by
    refine ⟨fd_138, fun j hj => ⟨?_, ?_, fun h0 => by omega⟩, fun x hx hn => ?_⟩
    · rw [fd_150, if_pos (by omega)]
    · rw [fd_147, if_pos rfl]; rfl
    · have := hn 0 (by decide)
      rw [fd_147, if_neg (fun e => this e.symm), aup_nc (by decide)]
      exact e147 x hx
  have keyI := while_inv (fun n i (Z : aM) => l_X13_brings_46 T (v : Int) (fun w46 m49 => some (0, m49)) n (i : Int) Z) (fun i Z => RB T M w A S v (8 * i) Z) (fun i Z => Z 138 31 ≤ (i : Int)) 8 (by decide) (fun i k Z hR hn => ?_) (fun i Z hi hR => ?_) (fdM (aup M2 138 31 0) c 0 0 (-1) (-1)) ⟨1, _, _, _, hB0, by omega, hM0, hs4, hw4, hL4⟩
  · obtain ⟨q, Z, m, hR, hst, hZ⟩ := keyI
    obtain ⟨n, o, ky, lev, hB, hin, hM, hs, hm, hL⟩ := hR
    rw [hM.1] at hst
    have hqn : q = n := by omega
    subst hqn
    refine ⟨Z, q, o, ky, lev, ?_, hB, hM, hs⟩
    unfold f_X13_brings
    refine c_bind hworks ((h6 _).trans (c_some ?_))
    rw [Int.toNat_natCast]
    refine c_ite (by omega) ?_
    have e141b : aup M2 138 31 0 141 v = (c : Int) := by rw [aup_nc (by decide)]; exact e141
    rw [e141b]
    refine c_bind (v := (0, fdM (aup M2 138 31 0) c 0 0 (-1) (-1))) ?_ ?_
    · unfold f_X13_finds
      exact c_pos rfl (g_finds22 (by omega) (by decide) aup_at)
    · have e : l_X13_brings_46 T (v : Int) (fun w46 m49 => some (0, m49)) FU 0 (fdM (aup M2 138 31 0) c 0 0 (-1) (-1)) = l_X13_brings_46 T (v : Int) (fun w46 m49 => some (0, m49)) (m + 1) (q : Int) Z := hZ
      refine Eq.trans e ?_
      rw [l_X13_brings_46, hM.1]
      exact c_pos (Int.le_refl _) rfl
  · obtain ⟨Y, hY, hl⟩ := g_brings56 hA hv hR (i := i) (fun n hn2 => by rw [hn2] at hn; omega) (fun w41 m43 => if aIn ((i : Int) + 1) then l_X13_brings_46 T (v : Int) (fun w46 m49 => some (0, m49)) k ((i : Int) + 1) m43 else none)
    refine ⟨Y, hY, ?_⟩
    show l_X13_brings_46 T (v : Int) _ (k + 1) (i : Int) Z = l_X13_brings_46 T (v : Int) _ k ((i + 1 : Nat) : Int) Y
    obtain ⟨n, o, ky, lev, hB, hin, hM, hs, hm, hL⟩ := hR
    have := hB.le
    rw [l_X13_brings_46]
    refine c_neg hn ?_
    rw [hl]
    exact c_ite (by omega) rfl
  · obtain ⟨n, o, ky, lev, hB, hin, hM, hs, hm, hL⟩ := hR
    have := hB.le
    show Z 138 31 ≤ (i : Int)
    rw [hM.1]
    omega
theorem lfv_fst (hA : WF A) {v t s : Nat} (ht : t < A 0 1) (hs : s < A 0 1) : lfv A S v t s = fst (fun k => stg (gmv A S v) s k t) 8 := by
  have h8 := hA.1.2.1
  exact fst_cong fun k _ => stg_flp (by omega) (by omega) k
theorem MB.calls (hA : WF A) {v t : Nat} (hs : (S v).toNat < A 0 1) (ht : t < A 0 1) (hB : BTv A S v n (8 * n) o ky lev) (hM : MB Z n o ky lev) : (lfv A S v t (S v).toNat = 8 ∧ Z 147 t = 9999) ∨ ∃ j, j < n ∧ o j = t ∧ lfv A S v t (S v).toNat = lev j ∧ Z 147 t = (lev j : Int) ∧ lev j < 8 := by
  have h8 := hA.1.2.1
  by_cases h : ∃ j, j < n ∧ o j = t
  · obtain ⟨j, hj, e⟩ := h
    have h1 := hB.levj j hj
    have h2 := hB.le
    refine Or.inr ⟨j, hj, e, ?_, ?_, by omega⟩
    · rw [lfv_fst hA ht hs, ← e]
      exact hB.rank h8 hj
    · rw [← e]; exact (hM.2.1 j hj).2.1
  · have hn : ∀ j, j < n → o j ≠ t := fun j hj e => h ⟨j, hj, e⟩
    refine Or.inl ⟨?_, hM.2.2 t (by omega) hn⟩
    rw [lfv_fst hA ht hs]
    exact hB.none h8 hn
theorem m_bring (h : MD T M A S) (v c : Int) : opM (f_X13_bring T v c M) M (sp_bring A S v c) := by
  have hA := h.1
  have h8 := hA.1.2.1
  unfold f_X13_bring sp_bring
  refine oM_bind rfl ?_
  have h1 : sM M (aup M 138 0 0) := sM_fl (by omega)
  have hm1 := h.of h1
  refine oM_isVoice hm1 (fun hn => ?_) (fun v' hv hlt => ?_)
  · rw [gd_neg (fun h => hn h.1)]; exact oM_ref h1
  · refine oM_isCave hm1 (fun hn => ?_) (fun c' hc hlt2 => ?_)
    · rw [gd_neg (fun h => hn h.2)]; exact oM_ref h1
    · subst hc hv
      rw [gd_pos ⟨inr_of hlt, inr_of hlt2⟩, Int.toNat_natCast, Int.toNat_natCast]
      obtain ⟨w, hw⟩ := hm1.has (by omega)
      obtain ⟨Z, n, o, ky, lev, hf, hB, hM, hs⟩ := g_brings hm1 hw hlt
      obtain ⟨s, es, ls⟩ := h.2.1.vo hlt
      have hsv : (S v').toNat < A 0 1 := by rw [es, Int.toNat_natCast]; exact ls
      refine oM_bind hf (oM_pos (by omega) ?_)
      show opM ((f_X13_told T (Z 147 c') Z).bind fun x18 => (f_X13_good T x18 Z).bind fun x20 => some (x20.1, x20.2)) M _
      rcases MB.calls hA hsv hlt2 hB hM with ⟨e1, e2⟩ | ⟨j, hj, e0, e1, e2, e3⟩
      · rw [e1, e2]
        refine oM_bind (v := -2) rfl ?_
        exact oM_good (h1.trans hs)
      · rw [e1, e2]
        refine oM_bind (g_told (lev j)) ?_
        have : tol (lev j) = bq (lev j) := by unfold tol bq; rw [if_pos (by omega), if_pos e3]
        rw [this]
        exact oM_good (h1.trans hs)
theorem m_bringAt (h : MD T M A S) (v c i : Int) : opM (f_X13_bringAt T v c i M) M (sp_bringAt A S v c i) := by
  have hA := h.1
  have h8 := hA.1.2.1
  unfold f_X13_bringAt sp_bringAt
  refine oM_bind rfl ?_
  have h1 : sM M (aup M 138 0 0) := sM_fl (by omega)
  have hm1 := h.of h1
  refine oM_isVoice hm1 (fun hn => ?_) (fun v' hv hlt => ?_)
  · rw [gd_neg (fun h => hn h.1.1)]; exact oM_ref h1
  · refine oM_isCave hm1 (fun hn => ?_) (fun c' hc hlt2 => ?_)
    · rw [gd_neg (fun h => hn h.1.2)]; exact oM_ref h1
    · subst hc hv
      rw [Int.toNat_natCast, Int.toNat_natCast]
      obtain ⟨w, hw⟩ := hm1.has (by omega)
      obtain ⟨Z, n, o, ky, lev, hf, hB, hM, hs⟩ := g_brings hm1 hw hlt
      obtain ⟨s, es, ls⟩ := h.2.1.vo hlt
      have hsv : (S v').toNat < A 0 1 := by rw [es, Int.toNat_natCast]; exact ls
      have hsM := h1.trans hs
      refine oM_bind hf (oM_pos (by omega) ?_)
      show opM (if Z 147 c' = 9999 then _ else if i < 0 then _ else if i < Z 147 c' then _ else _) M _
      rcases MB.calls hA hsv hlt2 hB hM with ⟨e1, e2⟩ | ⟨j, hj, e0, e1, e2, e3⟩
      · rw [gd_neg (fun h => by have := h.2.1; omega), e2]
        exact oM_pos rfl (oM_ref hsM)
      · rw [e2]
        refine oM_neg (by omega) ?_
        by_cases hi0 : i < 0
        · rw [gd_neg (fun h => by have := h.2.2.1; omega)]
          exact oM_pos hi0 (oM_ref hsM)
        · refine oM_neg hi0 ?_
          by_cases hi1 : i < (lev j : Int)
          · rw [gd_pos ⟨⟨inr_of hlt, inr_of hlt2⟩, by omega, by omega, by omega⟩]
            refine oM_pos hi1 ?_
            obtain ⟨i', rfl⟩ : ∃ i' : Nat, i = (i' : Int) := ⟨i.toNat, by omega⟩
            rw [Int.toNat_natCast]
            have hp := hB.path h8 hj i' (by omega)
            rw [e0] at hp
            have hans : fcv A S v' c' (cpv A S v' c' i') = ky (anc ky j (lev j - (i' + 1))) % 8 := by
              show fcl (A 0 1) (mth A) (cst A (dS S) (A 5 v')) c' (cpt (A 0 1) (mth A) (cst A (dS S) (A 5 v')) c' (S v').toNat i') = _
              rw [hp.1, hp.2 (by omega)]
            rw [hans]
            have key : ∀ kk : Int → Option (Int × aM), l_X13_bringAt_67 T (i' : Int) Z kk FU (c' : Int) = kk ((o (anc ky j (lev j - (i' + 1))) : Nat) : Int) := by
              intro kk
              have key := for_until (fun k n => l_X13_bringAt_67 T (i' : Int) Z kk n ((o (anc ky j k) : Nat) : Int)) (y := kk ((o (anc ky j (lev j - (i' + 1))) : Nat) : Int)) (lev j - (i' + 1)) (fun k n hk => ?_) (fun n => ?_) (by omega)
              · have e : l_X13_bringAt_67 T (i' : Int) Z kk FU ((o j : Nat) : Int) = _ := key
                rw [e0] at e
                exact e
              · obtain ⟨a1, a2⟩ := hB.ancs hj k (by omega)
                have a0 : anc ky j k ≠ 0 := fun e => by rw [e, hB.1.2.2] at a2; omega
                obtain ⟨m1, m2, m3⟩ := hM.2.1 _ a1
                have ho := hB.2.1 _ a1
                show l_X13_bringAt_67 T (i' : Int) Z kk (n + 1) _ = l_X13_bringAt_67 T (i' : Int) Z kk n ((o (ky (anc ky j k) / 8) : Nat) : Int)
                rw [l_X13_bringAt_67, Int.toNat_natCast, m2, (m3 (by omega)).1]
                exact c_ite (by omega) (c_ite (by omega) (c_neg (by omega) rfl))
              · obtain ⟨a1, a2⟩ := hB.ancs hj (lev j - (i' + 1)) (by omega)
                obtain ⟨m1, m2, m3⟩ := hM.2.1 _ a1
                have ho := hB.2.1 _ a1
                show l_X13_bringAt_67 T (i' : Int) Z kk (n + 1) _ = _
                rw [l_X13_bringAt_67, Int.toNat_natCast, m2]
                exact c_ite (by omega) (c_ite (by omega) (c_pos (by omega) rfl))
            rw [key]
            obtain ⟨a1, a2⟩ := hB.ancs hj (lev j - (i' + 1)) (by omega)
            have a0 : anc ky j (lev j - (i' + 1)) ≠ 0 := fun e => by rw [e, hB.1.2.2] at a2; omega
            obtain ⟨m1, m2, m3⟩ := hM.2.1 _ a1
            have ho := hB.2.1 _ a1
            refine oM_pos (by omega) ?_
            show opM ((f_X13_good T (Z 149 (o (anc ky j (lev j - (i' + 1))))) Z).bind fun x37 => some (x37.1, x37.2)) M _
            rw [(m3 (by omega)).2]
            exact oM_good hsM
          · rw [gd_neg (fun h => by have := h.2.2.2; omega)]
            exact oM_neg hi1 (oM_ref hsM)
theorem m_reach (h : MD T M A S) (v : Int) : opM (f_X13_reach T v M) M (sp_reach A S v) := by
  have hA := h.1
  have h8 := hA.1.2.1
  unfold f_X13_reach sp_reach
  refine oM_bind rfl ?_
  have h1 : sM M (aup M 138 0 0) := sM_fl (by omega)
  have hm1 := h.of h1
  refine oM_isVoice hm1 (fun hn => ?_) (fun v' hv hlt => ?_)
  · rw [gd_neg hn]; exact oM_ref h1
  · subst hv
    rw [gd_pos (inr_of hlt), Int.toNat_natCast]
    obtain ⟨w, hw⟩ := hm1.has (by omega)
    obtain ⟨Z, n, o, ky, lev, hf, hB, hM, hs⟩ := g_brings hm1 hw hlt
    obtain ⟨s, es, ls⟩ := h.2.1.vo hlt
    have hsv : (S v').toNat < A 0 1 := by rw [es, Int.toNat_natCast]; exact ls
    have hn := hB.le
    refine oM_bind hf ?_
    show opM (l_X13_reach_28 T Z (fun w13 w14 => (f_X13_good T w13 Z).bind fun x17 => some (x17.1, x17.2)) FU 0 0) M _
    have hob : ∀ j, j < n → o j < 8 := fun j hj => Nat.lt_of_lt_of_le (hB.2.1 j hj) h8
    have hset : uni 0 (fun _ => true) (fun j => 2 ^ o j) n = msk (stg (gmv A S v') (S v').toNat 8) 8 := by
      refine msk_eq fun x => ?_
      rw [uni_bit, Nat.zero_testBit, Bool.false_or]
      refine bool_ext ?_
      rw [exb_iff, Bool.and_eq_true, decide_eq_true_eq]
      constructor
      · rintro ⟨j, hj, e⟩
        rw [Bool.true_and, Nat.testBit_two_pow, decide_eq_true_eq] at e
        have := hob j hj
        refine ⟨by omega, ?_⟩
        rw [← e]
        exact stg_8 (by omega) this (hB.outof h8 j hj)
      · rintro ⟨hx, e⟩
        obtain ⟨z, hz, ez, -⟩ := hB.into h8 8 x e
        exact ⟨z, hz, by rw [ez, Nat.testBit_two_pow_self]; rfl⟩
    have key : ∀ kk : Int → Int → Option (Int × aM), l_X13_reach_28 T Z kk FU 0 0 = kk ((uni 0 (fun _ => true) (fun j => 2 ^ o j) n : Nat) : Int) (n : Int) := by
      intro kk
      refine uni_loop (fun m a i => l_X13_reach_28 T Z kk m a i) n 0 (fun _ => true) (fun j => 2 ^ o j) (by omega) (by decide) (fun j hj => Nat.pow_lt_pow_right (a := 2) (n := 8) (by decide) (hob j hj)) (fun j m hj => ?_) (fun m => ?_)
      · show l_X13_reach_28 T Z kk (m + 1) _ (j : Int) = l_X13_reach_28 T Z kk m _ ((j : Int) + 1)
        rw [l_X13_reach_28, hM.1, Int.toNat_natCast, (hM.2.1 j hj).1, ashl_one _ (by have := hob j hj; omega), if_pos rfl]
        exact c_neg (by omega) (c_ite (by omega) (c_ite (by omega) rfl))
      · show l_X13_reach_28 T Z kk (m + 1) _ (n : Int) = _
        rw [l_X13_reach_28, hM.1]
        exact c_pos (Int.le_refl _) rfl
    rw [key, hset]
    exact oM_good (h1.trans hs)
end Brm
