/-! ===== the model takes a well as told ===== -/
section Wlv
variable {B : Nat → Int} {n p : Nat} {T w : Nat} {M M1 : aM} {A A' : aA}
def rwA (h : Nat → Int) (i : Nat) : Nat → Int := fun b => if b < i then 0 else h b
def rwB (h V : Nat → Int) (i : Nat) : Nat → Int := fun b => if b < i then V b else if 3 ≤ b ∧ b < 3 + i then -2 else h b
def rwC (h F : Nat → Int) (i : Nat) : Nat → Int := fun b => if 6 ≤ b ∧ b < 6 + i then F (b - 6) else h b
theorem w_99 (kk : Int → aM → Option (Int × aM)) : l_X13_well_99 T kk FU 0 M = kk 12 (setc M 140 (rwA (M 140) 12)) := by
  have e0 : setc M 140 (rwA (M 140) 0) = M := by
    rw [show rwA (M 140) 0 = M 140 from funext fun b => if_neg (Nat.not_lt_zero b)]
    exact setc_self
  have key := for_until (fun i n => l_X13_well_99 T kk n (i : Int) (setc M 140 (rwA (M 140) i))) (y := kk 12 (setc M 140 (rwA (M 140) 12))) 12 (fun i n hi => ?_) (fun n => ?_) (by decide)
  · have e1 : l_X13_well_99 T kk FU 0 (setc M 140 (rwA (M 140) 0)) = _ := key
    rw [e0] at e1
    exact e1
  · show l_X13_well_99 T kk (n + 1) (i : Int) _ = l_X13_well_99 T kk n ((i + 1 : Nat) : Int) _
    rw [l_X13_well_99]
    refine c_neg (by omega) (c_ite (by omega) (c_some (c_ite (by omega) ?_)))
    rw [Int.toNat_natCast, aup_setc]
    have e : (fun b => if b = i then (0 : Int) else rwA (M 140) i b) = rwA (M 140) (i + 1) := by
      funext b
      unfold rwA
      by_cases h1 : b = i
      · rw [if_pos h1, if_pos (by omega)]
      · rw [if_neg h1]
        by_cases h2 : b < i
        · rw [if_pos h2, if_pos (by omega)]
        · rw [if_neg h2, if_neg (by omega)]
    rw [e]
    rfl
  · show l_X13_well_99 T kk (n + 1) 12 _ = _
    rw [l_X13_well_99]
    exact c_pos (by decide) rfl
theorem w_120 (hw : okW T (w : Int)) (h3 : M 138 3 = (w : Int)) (kk : Int → aM → Option (Int × aM)) : l_X13_well_120 T kk FU 0 M = kk 3 (setc M 140 (rwB (M 140) (M (w + 5)) 3)) := by
  have hge := okw_ge hw
  have e0 : setc M 140 (rwB (M 140) (M (w + 5)) 0) = M := by
    rw [show rwB (M 140) (M (w + 5)) 0 = M 140 from funext fun b => (if_neg (Nat.not_lt_zero b)).trans (if_neg (by omega))]
    exact setc_self
  have key := for_until (fun i n => l_X13_well_120 T kk n (i : Int) (setc M 140 (rwB (M 140) (M (w + 5)) i))) (y := kk 3 (setc M 140 (rwB (M 140) (M (w + 5)) 3))) 3 (fun i n hi => ?_) (fun n => ?_) (by decide)
  · have e1 : l_X13_well_120 T kk FU 0 (setc M 140 (rwB (M 140) (M (w + 5)) 0)) = _ := key
    rw [e0] at e1
    exact e1
  · show l_X13_well_120 T kk (n + 1) (i : Int) _ = l_X13_well_120 T kk n ((i + 1 : Nat) : Int) _
    rw [l_X13_well_120]
    have q3 : setc M 140 (rwB (M 140) (M (w + 5)) i) 138 3 = (w : Int) := by rw [setc_ne (by decide)]; exact h3
    have q5 : setc M 140 (rwB (M 140) (M (w + 5)) i) (w + 5) i = M (w + 5) i := by rw [setc_ne (by omega)]
    rw [q3, Int.toNat_natCast, Int.toNat_natCast, q5]
    refine c_neg (by omega) (c_ite hw (c_ite (by omega) (c_ite (by omega) (c_some (c_ite (by omega) (c_ite (by omega) (c_some (c_ite (by omega) ?_))))))))
    rw [aup_setc, aup_setc, show (3 + (i : Int)).toNat = 3 + i by omega]
    have e : (fun b => if b = 3 + i then (-2 : Int) else if b = i then M (w + 5) i else rwB (M 140) (M (w + 5)) i b) = rwB (M 140) (M (w + 5)) (i + 1) := by
      funext b
      unfold rwB
      by_cases h1 : b = 3 + i
      · rw [if_pos h1, if_neg (by omega), if_pos (by omega)]
      · rw [if_neg h1]
        by_cases h2 : b = i
        · rw [if_pos h2, if_pos (by omega), h2]
        · rw [if_neg h2]
          by_cases h4 : b < i
          · rw [if_pos h4, if_pos (by omega)]
          · rw [if_neg h4, if_neg (show ¬ b < i + 1 by omega)]
            by_cases h5 : 3 ≤ b ∧ b < 3 + i
            · rw [if_pos h5, if_pos (by omega)]
            · rw [if_neg h5, if_neg (by omega)]
    rw [e]
    rfl
  · show l_X13_well_120 T kk (n + 1) 3 _ = _
    rw [l_X13_well_120]
    exact c_pos (by decide) rfl
theorem w_158 (hw : okW T (w : Int)) (h3 : M 138 3 = (w : Int)) (kk : Int → aM → Option (Int × aM)) : l_X13_well_158 T kk FU 0 M = kk 4 (setc M 140 (rwC (M 140) (M (w + 6)) 4)) := by
  have hge := okw_ge hw
  have e0 : setc M 140 (rwC (M 140) (M (w + 6)) 0) = M := by
    rw [show rwC (M 140) (M (w + 6)) 0 = M 140 from funext fun b => if_neg (by omega)]
    exact setc_self
  have key := for_until (fun i n => l_X13_well_158 T kk n (i : Int) (setc M 140 (rwC (M 140) (M (w + 6)) i))) (y := kk 4 (setc M 140 (rwC (M 140) (M (w + 6)) 4))) 4 (fun i n hi => ?_) (fun n => ?_) (by decide)
  · have e1 : l_X13_well_158 T kk FU 0 (setc M 140 (rwC (M 140) (M (w + 6)) 0)) = _ := key
    rw [e0] at e1
    exact e1
  · show l_X13_well_158 T kk (n + 1) (i : Int) _ = l_X13_well_158 T kk n ((i + 1 : Nat) : Int) _
    rw [l_X13_well_158]
    have q3 : setc M 140 (rwC (M 140) (M (w + 6)) i) 138 3 = (w : Int) := by rw [setc_ne (by decide)]; exact h3
    have q5 : setc M 140 (rwC (M 140) (M (w + 6)) i) (w + 6) i = M (w + 6) i := by rw [setc_ne (by omega)]
    rw [q3, Int.toNat_natCast, Int.toNat_natCast, q5]
    refine c_neg (by omega) (c_ite (by omega) (c_ite hw (c_ite (by omega) (c_ite (by omega) (c_some (c_ite (by omega) ?_))))))
    rw [aup_setc, show (6 + (i : Int)).toNat = 6 + i by omega]
    have e : (fun b => if b = 6 + i then M (w + 6) i else rwC (M 140) (M (w + 6)) i b) = rwC (M 140) (M (w + 6)) (i + 1) := by
      funext b
      unfold rwC
      by_cases h1 : b = 6 + i
      · rw [if_pos h1, if_pos (by omega), show b - 6 = i by omega]
      · rw [if_neg h1]
        by_cases h5 : 6 ≤ b ∧ b < 6 + i
        · rw [if_pos h5, if_pos (by omega)]
        · rw [if_neg h5, if_neg (by omega)]
    rw [e]
    rfl
  · show l_X13_well_158 T kk (n + 1) 4 _ = _
    rw [l_X13_well_158]
    exact c_pos (by decide) rfl
/-- the model's state begun -/
def bgR (M : aM) (w : Nat) : Nat → Int := fun b => if b = 10 then M w 6 else rwC (rwB (rwA (M 140) 12) (M (w + 5)) 3) (M (w + 6)) 4 b
def bgW (M : aM) (w : Nat) : aM := aup (aup (aup (aup (setc (aup M 138 3 (w : Int)) 140 (bgR M w)) 138 20 0) 138 21 0) 138 1 0) 138 2 (-1)
theorem m_begun (hw : okW T (w : Int)) (h4 : M 138 4 = (w : Int)) : b_X13_well_89 T M = some (M w 3, bgW M w) := by
  have hge := okw_ge hw
  unfold b_X13_well_89
  rw [h4, Int.toNat_natCast]
  refine c_ite hw (c_some ((w_99 _).trans ?_))
  have e1 : aup M 138 3 (w : Int) 140 = M 140 := aup_nc (by decide)
  rw [e1]
  have q3 : setc (aup M 138 3 (w : Int)) 140 (rwA (M 140) 12) 138 3 = (w : Int) := by rw [setc_ne (by decide)]; exact aup_at
  refine (w_120 hw q3 _).trans ?_
  have q5 : setc (aup M 138 3 (w : Int)) 140 (rwA (M 140) 12) (w + 5) = M (w + 5) := by rw [setc_ne (by omega), aup_nc (by omega)]
  rw [q5, setc_at, setc_setc]
  have q3b : setc (aup M 138 3 (w : Int)) 140 (rwB (rwA (M 140) 12) (M (w + 5)) 3) 138 3 = (w : Int) := by rw [setc_ne (by decide)]; exact aup_at
  refine (w_158 hw q3b _).trans ?_
  have q6 : setc (aup M 138 3 (w : Int)) 140 (rwB (rwA (M 140) 12) (M (w + 5)) 3) (w + 6) = M (w + 6) := by rw [setc_ne (by omega), aup_nc (by omega)]
  rw [q6, setc_at, setc_setc]
  have q3c : setc (aup M 138 3 (w : Int)) 140 (rwC (rwB (rwA (M 140) 12) (M (w + 5)) 3) (M (w + 6)) 4) 138 3 = (w : Int) := by rw [setc_ne (by decide)]; exact aup_at
  have qw : setc (aup M 138 3 (w : Int)) 140 (rwC (rwB (rwA (M 140) 12) (M (w + 5)) 3) (M (w + 6)) 4) w 6 = M w 6 := by rw [setc_ne (by omega), aup_nc (by omega)]
  rw [q3c, Int.toNat_natCast, qw]
  refine c_ite hw (c_some ?_)
  rw [aup_setc]
  refine c_some (c_some ?_)
  have z3 : aup (aup (setc (aup M 138 3 (w : Int)) 140 (bgR M w)) 138 20 0) 138 21 0 138 3 = (w : Int) := by
    rw [aup_ne2 (by decide), aup_ne2 (by decide), setc_ne (by decide)]; exact aup_at
  have zw : aup (aup (setc (aup M 138 3 (w : Int)) 140 (bgR M w)) 138 20 0) 138 21 0 w 3 = M w 3 := by
    rw [aup_nc (by omega), aup_nc (by omega), setc_ne (by omega), aup_nc (by omega)]
  show (if okW T (aup (aup (setc (aup M 138 3 (w : Int)) 140 (bgR M w)) 138 20 0) 138 21 0 138 3) then (f_X13_good T (aup (aup (setc (aup M 138 3 (w : Int)) 140 (bgR M w)) 138 20 0) 138 21 0 (aup (aup (setc (aup M 138 3 (w : Int)) 140 (bgR M w)) 138 20 0) 138 21 0 138 3).toNat 3) (aup (aup (setc (aup M 138 3 (w : Int)) 140 (bgR M w)) 138 20 0) 138 21 0)).bind (fun x48 => some (x48.1, x48.2)) else none) = _
  rw [z3, Int.toNat_natCast, zw]
  exact c_ite hw rfl
theorem bgR_st (hA : WF A) (hr : MRd M w A) : st0 A (bgR M w) := by
  obtain ⟨-, l1, l2, l3, l4, l5, l6, l7⟩ := hA.1
  unfold bgR rwC rwB rwA
  refine ⟨fun k hk => ?_, fun k hk => ?_, fun f hf => ?_, ?_, ?_⟩
  · have := hr.2.2.2 6 (by decide) (by decide) k hk
    show (if k = 10 then _ else _) = _
    rw [if_neg (by omega), if_neg (by omega), if_pos (by omega)]
    exact this
  · show (if 3 + k = 10 then _ else _) = _
    rw [if_neg (by omega), if_neg (by omega), if_neg (by omega), if_pos (by omega)]
  · have := hr.2.2.2 7 (by decide) (by decide) f hf
    show (if 6 + f = 10 then _ else _) = _
    rw [if_neg (by omega), if_pos (by omega), show 6 + f - 6 = f by omega]
    exact this
  · show (if (10 : Nat) = 10 then _ else _) = _
    rw [if_pos rfl]
    exact hr.2.2.1.2.1
  · rfl
theorem MRd.mw (h1 : A 0 0 = 1) (hr : MRd M w A) : MW M w A := by
  obtain ⟨⟨a0, a1⟩, b, ⟨c1, c2, c3⟩, d⟩ := hr
  rw [if_pos h1] at a0
  obtain ⟨a1, a2⟩ := a1 h1
  refine ⟨⟨a0, a1, a2, b 1 (by decide) (by decide), c1, b 2 (by decide) (by decide), c2, b 3 (by decide) (by decide), b 4 (by decide) (by decide), b 5 (by decide) (by decide), b 6 (by decide) (by decide), b 7 (by decide) (by decide), c3⟩, fun k hk => ⟨d 2 (by decide) (by decide) k hk, d 3 (by decide) (by decide) k hk, d 4 (by decide) (by decide) k hk⟩, fun k hk => ⟨d 5 (by decide) (by decide) k hk, d 6 (by decide) (by decide) k hk⟩, fun k hk => d 7 (by decide) (by decide) k hk, fun k hk => ⟨d 8 (by decide) (by decide) k hk, d 9 (by decide) (by decide) k hk⟩, fun k hk => d 10 (by decide) (by decide) k hk, fun k hk => ⟨d 11 (by decide) (by decide) k hk, d 12 (by decide) (by decide) k hk⟩⟩
theorem MW.cong {M1 : aM} (h : MW M w A) (e : ∀ m, w ≤ m → m ≤ w + 14 → M1 m = M m) : MW M1 w A := by
  unfold MW
  rw [e w (by omega) (by omega), e (w + 1) (by omega) (by omega), e (w + 2) (by omega) (by omega), e (w + 3) (by omega) (by omega), e (w + 4) (by omega) (by omega), e (w + 5) (by omega) (by omega), e (w + 6) (by omega) (by omega), e (w + 7) (by omega) (by omega), e (w + 8) (by omega) (by omega), e (w + 9) (by omega) (by omega), e (w + 10) (by omega) (by omega), e (w + 11) (by omega) (by omega)]
  exact h
/-- how the model takes a text -/
def mWl (T : Nat) (M M' : aM) (e : Except rE aA) : Prop := (∀ m, m ≠ 138 → m ≠ 140 → m < T ∨ T + 15 ≤ m → M' m = M m) ∧ M' 138 6 = 0 ∧ match e with
  | .error er => M' 140 = M 140 ∧ (∀ k, k = 3 ∨ k = 5 ∨ 15 < k → M' 138 k = M 138 k) ∧ M' 138 1 = 4 ∧ M' 138 2 = (er.2 : Int) ∧ M' 138 12 = (er.1 : Int)
  | .ok A' => M' 138 3 = (T : Int) ∧ MW M' T A' ∧ st0 A' (M' 140) ∧ M' 138 20 = 0 ∧ M' 138 21 = 0 ∧ M' 138 1 = 0 ∧ M' 138 2 = -1 ∧ M' 138 12 = 0
theorem m_well (hT : 154 ≤ T ∧ (T - 154) % 15 = 0) (hn : n ≤ 900) (hB : ∀ k, k < n → M 139 k = B k ∧ -128 ≤ B k ∧ B k < 128) : ∃ M', f_X13_wellG T (n : Int) M = some ((match sAll B n 1000 (fun _ _ => 0) (spq B n 0) with | .error _ => -1 | .ok A' => (A' 0 1 : Int)), M') ∧ mWl T M M' (sAll B n 1000 (fun _ _ => 0) (spq B n 0)) := by
  have hw : okW (T + 15) (T : Int) := ⟨by omega, by omega, by omega⟩
  have z : ∀ k, k ≠ 9 → k ≠ 4 → wlB T (n : Int) M 138 k = wlA (n : Int) M 138 k := fun k h9 h4 => by
    unfold wlB
    rw [aup_ne2 h9, aup_ne2 h4, nwz_far 14 (by omega)]
  have zf : ∀ m, m ≠ 138 → m < T ∨ T + 15 ≤ m → wlB T (n : Int) M m = M m := fun m hm h => by
    unfold wlB wlA
    rw [aup_nc hm, aup_nc hm, nwz_far 14 (by omega), aup_nc hm, aup_nc hm, aup_nc hm, aup_nc hm, aup_nc hm]
  have z7 : wlB T (n : Int) M 138 7 = (n : Int) := by rw [z 7 (by decide) (by decide)]; unfold wlA; rw [aup_ne2 (by decide), aup_ne2 (by decide), aup_ne2 (by decide)]; exact aup_at
  have z6 : wlB T (n : Int) M 138 6 = 0 := by rw [z 6 (by decide) (by decide)]; unfold wlA; rw [aup_ne2 (by decide), aup_ne2 (by decide)]; exact aup_at
  have z8 : wlB T (n : Int) M 138 8 = ((0 : Nat) : Int) := by rw [z 8 (by decide) (by decide)]; unfold wlA; rw [aup_ne2 (by decide)]; exact aup_at
  have z12 : wlB T (n : Int) M 138 12 = 0 := by rw [z 12 (by decide) (by decide)]; exact aup_at
  have z9 : wlB T (n : Int) M 138 9 = 0 := aup_at
  have z4 : wlB T (n : Int) M 138 4 = (T : Int) := by unfold wlB; rw [aup_ne2 (by decide)]; exact aup_at
  have zo : ∀ k, k = 3 ∨ k = 5 ∨ 15 < k → wlB T (n : Int) M 138 k = M 138 k := fun k hk => by
    rw [z k (by omega) (by omega)]
    unfold wlA
    rw [aup_ne2 (by omega), aup_ne2 (by omega), aup_ne2 (by omega), aup_ne2 (by omega), aup_ne2 (by omega)]
  have zT : ∀ m, T ≤ m → m < T + 15 → wlB T (n : Int) M m = nwz (wlA (n : Int) M) T 14 m := fun m h1 h2 => by
    unfold wlB
    rw [aup_nc (by omega), aup_nc (by omega)]
  obtain ⟨M1, q1, q2, q3⟩ := g_on (T := T + 15) hn (Nat.zero_le n) (by rw [z9]; decide) z7 z8 (fun k hk => by rw [zf 139 (by decide) (by omega)]; exact hB k hk)
  have r0 : MRd M1 T (fun _ _ => 0) := by
    have eT : M1 T = nwz (wlA (n : Int) M) T 14 T := by rw [q3.2 T (by omega), zT T (by omega) (by omega)]
    unfold MRd
    rw [eT]
    refine ⟨⟨?_, fun e => absurd e (by decide)⟩, fun i h1 h8 => ?_, ⟨?_, ?_, ?_⟩, fun r _ _ k hk => absurd hk (Nat.not_lt_zero k)⟩
    · rw [if_neg (by decide)]; exact nwz_0 14
    · have : ∀ i, 1 ≤ i → i ≤ 8 → 0 < cf i ∧ cf i < 14 := by
        intro i h1 h8
        have : ∀ i, i < 9 → 1 ≤ i → 0 < cf i ∧ cf i < 14 := by decide
        exact this i (by omega) h1
      exact nwz_n 14 (this i h1 h8).1 (this i h1 h8).2
    · exact nwz_n 14 (by decide) (by decide)
    · exact nwz_n 14 (by decide) (by decide)
    · exact nwz_n 14 (by decide) (by decide)
  have h41 : M1 138 4 = (T : Int) := (q3.1 4 (by decide)).trans z4
  obtain ⟨M2, u1, u2, u3⟩ := m_readAll (T := T + 15) hn hw q2 h41 r0
  have f2 : ∀ m, m ≠ 138 → m < T ∨ T + 15 ≤ m → M2 m = M m := fun m hm h => by rw [u2.2 m hm h, q3.2 m hm, zf m hm h]
  have g2 : ∀ k, k < 8 ∨ 15 < k → M2 138 k = wlB T (n : Int) M 138 k := fun k hk => by rw [u2.1 k hk, q3.1 k (by omega)]
  unfold f_X13_wellG
  cases hs : sAll B n 1000 (fun _ _ => 0) (spq B n 0) with
  | error er =>
    rw [hs] at u3
    have := epo_txt (B := B) hn er hs
    refine ⟨aup (aup M2 138 1 4) 138 2 (er.2 : Int), c_bind q1 (c_bind u1 ?_), fun m h1 _ h3 => ?_, ?_, ?_, fun k hk => ?_, ?_, aup_at, ?_⟩
    · show (if M2 138 12 ≤ 0 then _ else _) = _
      rw [u3.1]
      refine c_neg (by omega) ?_
      show some (-1, aup (aup M2 138 1 4) 138 2 (M2 138 13)) = _
      rw [u3.2]
    · rw [aup_nc h1, aup_nc h1]; exact f2 m h1 h3
    · rw [aup_ne2 (by decide), aup_ne2 (by decide), g2 6 (by decide)]; exact z6
    · rw [aup_nc (by decide), aup_nc (by decide)]; exact f2 140 (by decide) (by omega)
    · rw [aup_ne2 (by omega), aup_ne2 (by omega), g2 k (by omega)]; exact zo k hk
    · rw [aup_ne2 (by decide)]; exact aup_at
    · rw [aup_ne2 (by decide), aup_ne2 (by decide)]; exact u3.1
  | ok A' =>
    rw [hs] at u3
    obtain ⟨hA, hA1⟩ := sAll_ok 1000 _ _ WFd.zero (spq_le (Nat.zero_le n)).2 hs
    obtain ⟨u3, u4⟩ := u3
    have h12 : M2 138 12 = 0 := by rw [u4, q3.1 12 (by decide)]; exact z12
    have h4 : M2 138 4 = (T : Int) := (g2 4 (by decide)).trans z4
    have hb := m_begun (T := T + 15) hw h4
    have h3 : M2 T 3 = (A' 0 1 : Int) := u3.2.1 1 (by decide) (by decide)
    rw [h3] at hb
    have bne : ∀ m, m ≠ 138 → m ≠ 140 → bgW M2 T m = M2 m := fun m h1 h2 => by
      unfold bgW
      rw [aup_nc h1, aup_nc h1, aup_nc h1, aup_nc h1, setc_ne h2, aup_nc h1]
    refine ⟨bgW M2 T, c_bind q1 (c_bind u1 (c_pos (by show M2 138 12 ≤ 0; omega) hb)), fun m h1 h2 h3 => ?_, ?_, ?_, ?_, ?_, ?_, ?_, ?_, ?_, ?_⟩
    · rw [bne m h1 h2]; exact f2 m h1 h3
    · unfold bgW
      rw [aup_ne2 (by decide), aup_ne2 (by decide), aup_ne2 (by decide), aup_ne2 (by decide), setc_ne (by decide), aup_ne2 (by decide), g2 6 (by decide)]; exact z6
    · unfold bgW
      rw [aup_ne2 (by decide), aup_ne2 (by decide), aup_ne2 (by decide), aup_ne2 (by decide), setc_ne (by decide)]; exact aup_at
    · exact (u3.mw hA1).cong fun m h1 h2 => bne m (by omega) (by omega)
    · have e : bgW M2 T 140 = bgR M2 T := by
        unfold bgW
        rw [aup_nc (by decide), aup_nc (by decide), aup_nc (by decide), aup_nc (by decide), setc_at]
      rw [e]
      exact bgR_st hA u3
    · unfold bgW
      rw [aup_ne2 (by decide), aup_ne2 (by decide), aup_ne2 (by decide)]; exact aup_at
    · unfold bgW
      rw [aup_ne2 (by decide), aup_ne2 (by decide)]; exact aup_at
    · unfold bgW
      rw [aup_ne2 (by decide)]; exact aup_at
    · exact aup_at
    · unfold bgW
      rw [aup_ne2 (by decide), aup_ne2 (by decide), aup_ne2 (by decide), aup_ne2 (by decide), setc_ne (by decide), aup_ne2 (by decide)]; exact h12
end Wlv
