/-! ===== the class reads a text ===== -/
section Crd
variable {B : Nat → Int} {n p : Nat} {T : Nat} {M M1 : aM} {A : aA}
theorem cLn.out {j : Nat} {x : Option (Int × aM)} {e : Except rE (aA × Nat)} (h : cLn B n j x M A e) : cLn B n j (x.bind fun y => if y.1 = 0 ∨ y.1 = 1 then some (y.1, y.2) else none) M A e := by
  cases e with
  | error er =>
    obtain ⟨M', h1, h2⟩ := h
    exact ⟨M', c_bind h1 (c_ite (Or.inl rfl) rfl), h2⟩
  | ok y =>
    obtain ⟨M', h1, h2⟩ := h
    exact ⟨M', c_bind h1 (c_ite (Or.inr rfl) rfl), h2⟩
theorem c_lrest (hn : n ≤ 900) (hA : WFd A) (h : CK B n M p) (hd : CD M A) {j : Nat} (hj : j < 8) (hr : A 0 j < rom j) (h00 : j = 0 → A 0 0 = 0) (h01 : j ≠ 0 → 0 < A 0 0) : cLn B n j (f_X7_readRest T (j : Int) M) M A (sRest B n j A p) := by
  have h1 : j ≠ 0 → A 0 0 = 1 := fun e => by have := h01 e; have := hA.1.1; omega
  unfold f_X7_readRest sRest
  rcases i8 hj with rfl | rfl | rfl | rfl | rfl | rfl | rfl | rfl
  · exact (cl0 hn hA h hd (h00 rfl)).out
  · exact (cl1 hn hA h hd (h1 (by decide)) hr).out
  · exact (cl2 hn hA h hd (h1 (by decide)) hr).out
  · exact (cl3 hn hA h hd (h1 (by decide)) hr).out
  · exact (cl4 hn hA h hd (h1 (by decide)) hr).out
  · exact (cl5 hn hA h hd (h1 (by decide)) hr).out
  · exact (cl6 hn hA h hd (h1 (by decide)) hr).out
  · exact (cl7 hn hA h hd (h1 (by decide)) hr).out
/-- how the whole text comes out -/
def cAl (M : aM) (M' : aM) (e : Except rE aA) : Prop := kR M M' ∧ match e with
  | .error er => M' 16 1 = (er.1 : Int) ∧ M' 16 2 = (er.2 : Int)
  | .ok A' => CD M' A' ∧ M' 16 1 = M 16 1
theorem c_loop (hn : n ≤ 900) (kk : Int → Int → aM → Option (Int × aM)) : ∀ (f : Nat) (A : aA) (p i m : Nat) (M : aM), WFd A → CK B n M p → CD M A → n - p < 2 * f → 2 * i ≤ p → ∃ i' M', l_X7_read_35 T kk (m + f + 1) 1 (i : Int) M = kk 0 i' M' ∧ cAl M M' (sAll B n f A p)
  | 0, A, p, i, m, M, _, _, _, h, _ => absurd h (Nat.not_lt_zero _)
  | f + 1, A, p, i, m, M, hA, h, hd, hf, hi => by
    have hp := h.2.1
    have h10 : ¬ ((1 : Int) = 0) := by decide
    have hend : ∀ M' : aM, l_X7_read_35 T kk (m + f + 1) 0 ((i : Int) + 1) M' = kk 0 ((i : Int) + 1) M' := by
      intro M'
      rw [l_X7_read_35]
      split
      · rfl
      · exact c_pos rfl rfl
    have hl := c_lineHere (T := T) hn h hd (names_le hA)
    have s1 := c_begins (T := T) hn h hd
    show ∃ i' M', l_X7_read_35 T kk (m + f + 1 + 1) 1 (i : Int) M = kk 0 i' M' ∧ cAl M M' ((sBeg B n A p).bind _)
    rw [l_X7_read_35]
    cases e1 : sBeg B n A p with
    | error e =>
      rw [e1] at s1
      obtain ⟨M', q1, q2, q3⟩ := s1
      exact ⟨_, M', c_neg (by omega) (c_neg h10 (c_bind hl (c_bind q1 (c_pos rfl (c_ite (by omega) (hend M')))))), q2, q3⟩
    | ok j =>
      rw [e1] at s1
      obtain ⟨M1, q1, q2, q3⟩ := s1
      obtain ⟨b1, b2, b3, b4, b5, b6⟩ := sBeg_ok e1
      rw [b2, if_pos b1] at hl q1
      have hpn : p < n := by
        rcases Nat.lt_or_ge p n with q | q
        · exact q
        · rw [kS_end.mpr q] at b6; cases b6
      have hx := kX_le (B := B) hp
      have hd1 := hd.cong q3
      have s2 := c_lrest (T := T) hn hA q2 hd1 b1 b3 b4 b5
      show ∃ i' M', _ ∧ cAl M M' ((sRest B n j A (kX B n p)).bind _)
      cases e2 : sRest B n j A (kX B n p) with
      | error e =>
        rw [e2] at s2
        obtain ⟨M', r1, r2, r3⟩ := s2
        exact ⟨_, M', c_neg (by omega) (c_neg h10 (c_bind hl (c_bind q1 (c_neg h10 (c_bind r1 (c_pos rfl (c_ite (by omega) (hend M')))))))), q3.kR.trans r2, r3⟩
      | ok x =>
        rw [e2] at s2
        obtain ⟨M2, r1, r2, r3, r4, r5, r6⟩ := s2
        obtain ⟨w1, w2, w3, w4⟩ := sRest_ok hA hx.1 b1 b3 b4 b5 e2
        have hb16 : M1 16 1 = M 16 1 := by rw [q3 16 (by decide)]
        have m18 : aup M2 18 j ((A 0 j : Int) + 1) 18 1 = (x.1 0 1 : Int) := r3.1 1 (by decide)
        have ck3 : CK B n (aup M2 18 j ((A 0 j : Int) + 1)) x.2 := CK_up r2 (by decide) (by decide)
        have hs34 : aup M2 18 j ((A 0 j : Int) + 1) 34 4 = (kS B n x.2 : Int) := ck3.1.2.2.2
        have k3 : kR M (aup M2 18 j ((A 0 j : Int) + 1)) := (q3.kR.trans r5).trans (kR_up (by decide))
        have f16 : aup M2 18 j ((A 0 j : Int) + 1) 16 1 = M 16 1 := by rw [aup_nc (by decide), r6, hb16]
        have hr10 := rom_lt j b1
        show ∃ i' M', _ ∧ cAl M M' (if kS B n x.2 = 0 then _ else _)
        have pre : ∀ y, ((f_X7_endsLine T (j : Int) M2).bind fun x31 => if x31.1 = 0 then (if aIn ((i : Int) + 1) then l_X7_read_35 T kk (m + f + 1) 0 ((i : Int) + 1) x31.2 else none) else (if aIn ((i : Int) + 1) then l_X7_read_35 T kk (m + f + 1) 1 ((i : Int) + 1) x31.2 else none)) = y → (if (900 : Int) ≤ (i : Int) then kk 1 (i : Int) M else if (1 : Int) = 0 then kk 1 (i : Int) M else (f_X7_lineHere T M).bind fun x17 => (f_X7_beginsLine T x17 M).bind fun x19 => if x19.1 = 0 then (if aIn ((i : Int) + 1) then l_X7_read_35 T kk (m + f + 1) 0 ((i : Int) + 1) x19.2 else none) else (f_X7_readRest T x17 x19.2).bind fun x25 => if x25.1 = 0 then (if aIn ((i : Int) + 1) then l_X7_read_35 T kk (m + f + 1) 0 ((i : Int) + 1) x25.2 else none) else (f_X7_endsLine T x17 x25.2).bind fun x31 => if x31.1 = 0 then (if aIn ((i : Int) + 1) then l_X7_read_35 T kk (m + f + 1) 0 ((i : Int) + 1) x31.2 else none) else (if aIn ((i : Int) + 1) then l_X7_read_35 T kk (m + f + 1) 1 ((i : Int) + 1) x31.2 else none)) = y := fun y hy => c_neg (by omega) (c_neg h10 (c_bind hl (c_bind q1 (c_neg h10 (c_bind r1 (c_neg h10 hy))))))
        have hends : ∀ y, (if aup M2 18 j ((A 0 j : Int) + 1) 34 4 = 0 then (if aup M2 18 j ((A 0 j : Int) + 1) 18 1 = 0 then (f_X7_fails T 6 (aup M2 18 j ((A 0 j : Int) + 1))).bind (fun x17 => if x17.1 = 0 then some (0, x17.2) else some (1, x17.2)) else some (0, aup M2 18 j ((A 0 j : Int) + 1))) else if aup M2 18 j ((A 0 j : Int) + 1) 34 4 = 3 then (f_X9_advance T (aup M2 18 j ((A 0 j : Int) + 1))).bind (fun x7 => some (1, x7.2)) else (f_X7_fails T 1 (aup M2 18 j ((A 0 j : Int) + 1))).bind fun x11 => if x11.1 = 0 ∨ x11.1 = 1 then some (x11.1, x11.2) else none) = y → f_X7_endsLine T (j : Int) M2 = y := by
          intro y hy
          unfold f_X7_endsLine
          rw [Int.toNat_natCast, r4]
          exact c_ite (by omega) (c_ite (by omega) (c_some hy))
        by_cases h0 : kS B n x.2 = 0
        · rw [if_pos h0]
          by_cases hc0 : x.1 0 1 = 0
          · rw [if_pos hc0]
            have hfr := c_failr (T := T) ck3 6
            refine ⟨_, aup (aup (aup M2 18 j ((A 0 j : Int) + 1)) 16 1 6) 16 2 (x.2 : Int), pre _ (c_bind (hends _ (c_pos (by rw [hs34, h0]; rfl) (c_pos (by rw [m18, hc0]; rfl) (c_bind hfr (c_pos rfl rfl))))) (c_pos rfl (c_ite (by omega) (hend _)))), k3.trans (fl_eq ck3 6).1, (fl_eq ck3 6).2⟩
          · rw [if_neg hc0]
            exact ⟨_, aup M2 18 j ((A 0 j : Int) + 1), pre _ (c_bind (hends _ (c_pos (by rw [hs34, h0]; rfl) (c_neg (by rw [m18]; omega) rfl))) (c_pos rfl (c_ite (by omega) (hend _)))), k3, r3, f16⟩
        · rw [if_neg h0]
          by_cases h3 : kS B n x.2 = 3
          · rw [if_pos h3]
            obtain ⟨M3, t1, t2, t3⟩ := ck3.adv (T := T) hn
            have hx2 : x.2 < n := by
              rcases Nat.lt_or_ge x.2 n with q | q
              · exact q
              · exact absurd (kS_end.mpr q) h0
            have hk2 := kX_le (B := B) w4
            obtain ⟨i', M', u1, u2, u3⟩ := c_loop hn kk f x.1 (kX B n x.2) (i + 1) m M3 w1 t2 (r3.cong t3) (by have := hx.2 hpn; have := hk2.2 hx2; omega) (by have := hx.2 hpn; have := hk2.2 hx2; omega)
            refine ⟨i', M', pre _ (c_bind (hends _ (c_neg (by rw [hs34]; omega) (c_pos (by rw [hs34, h3]; rfl) (c_bind t1 rfl)))) (c_neg h10 (c_ite (by omega) u1))), (k3.trans (kA.kR t3)).trans u2, ?_⟩
            cases hq : sAll B n f x.1 (kX B n x.2) with
            | error e => rw [hq] at u3; exact u3
            | ok A' =>
              rw [hq] at u3
              refine ⟨u3.1, ?_⟩
              rw [u3.2, t3 16 (by decide)]
              exact f16
          · rw [if_neg h3]
            have hfr := c_failr (T := T) ck3 1
            refine ⟨_, aup (aup (aup M2 18 j ((A 0 j : Int) + 1)) 16 1 1) 16 2 (x.2 : Int), pre _ (c_bind (hends _ (c_neg (by rw [hs34]; omega) (c_neg (by rw [hs34]; omega) (c_bind hfr (c_ite (Or.inl rfl) rfl))))) (c_pos rfl (c_ite (by omega) (hend _)))), k3.trans (fl_eq ck3 1).1, (fl_eq ck3 1).2⟩
theorem c_empty2 (kk : Int → aM → Option (Int × aM)) : l_X10_empty_2 T 17 kk FU 0 M = kk 8 (setc M 18 (ovr (M 18) 8 (fun _ => 0))) := by
  have e0 : setc M 18 (ovr (M 18) 0 (fun _ => 0)) = M := by
    rw [show ovr (M 18) 0 (fun _ => 0) = M 18 from funext fun b => if_neg (Nat.not_lt_zero b)]
    exact setc_self
  have key := for_until (fun i n => l_X10_empty_2 T 17 kk n (i : Int) (setc M 18 (ovr (M 18) i (fun _ => 0)))) (y := kk 8 (setc M 18 (ovr (M 18) 8 (fun _ => 0)))) 8 (fun i n hi => ?_) (fun n => ?_) (by decide)
  · have e1 : l_X10_empty_2 T 17 kk FU 0 (setc M 18 (ovr (M 18) 0 (fun _ => 0))) = _ := key
    rw [e0] at e1
    exact e1
  · show l_X10_empty_2 T 17 kk (n + 1) (i : Int) _ = l_X10_empty_2 T 17 kk n ((i + 1 : Nat) : Int) _
    rw [l_X10_empty_2]
    refine c_neg (by omega) (c_ite (by omega) (c_some (c_ite (by omega) ?_)))
    rw [Int.toNat_natCast, show 17 + 1 = 18 from rfl, aup_setc]
    have e : (fun b => if b = i then (0 : Int) else ovr (M 18) i (fun _ => 0) b) = ovr (M 18) (i + 1) (fun _ => 0) := by
      funext b
      unfold ovr
      by_cases h1 : b = i
      · rw [if_pos h1, if_pos (by omega)]; rfl
      · rw [if_neg h1]
        by_cases h2 : b < i
        · rw [if_pos h2, if_pos (by omega)]
        · rw [if_neg h2, if_neg (by omega)]
    rw [e]
    rfl
  · show l_X10_empty_2 T 17 kk (n + 1) 8 _ = _
    rw [l_X10_empty_2]
    exact c_pos (by decide) rfl
theorem c_empty23 (kk : Int → aM → Option (Int × aM)) : l_X10_empty_23 T 17 kk FU 0 M = kk 64 (setc M 22 (ovr (M 22) 64 (fun _ => 0))) := by
  have e0 : setc M 22 (ovr (M 22) 0 (fun _ => 0)) = M := by
    rw [show ovr (M 22) 0 (fun _ => 0) = M 22 from funext fun b => if_neg (Nat.not_lt_zero b)]
    exact setc_self
  have key := for_until (fun i n => l_X10_empty_23 T 17 kk n (i : Int) (setc M 22 (ovr (M 22) i (fun _ => 0)))) (y := kk 64 (setc M 22 (ovr (M 22) 64 (fun _ => 0)))) 64 (fun i n hi => ?_) (fun n => ?_) (by decide)
  · have e1 : l_X10_empty_23 T 17 kk FU 0 (setc M 22 (ovr (M 22) 0 (fun _ => 0))) = _ := key
    rw [e0] at e1
    exact e1
  · show l_X10_empty_23 T 17 kk (n + 1) (i : Int) _ = l_X10_empty_23 T 17 kk n ((i + 1 : Nat) : Int) _
    rw [l_X10_empty_23]
    refine c_neg (by omega) (c_ite (by omega) (c_some (c_ite (by omega) ?_)))
    rw [Int.toNat_natCast, show 17 + 5 = 22 from rfl, aup_setc]
    have e : (fun b => if b = i then (0 : Int) else ovr (M 22) i (fun _ => 0) b) = ovr (M 22) (i + 1) (fun _ => 0) := by
      funext b
      unfold ovr
      by_cases h1 : b = i
      · rw [if_pos h1, if_pos (by omega)]; rfl
      · rw [if_neg h1]
        by_cases h2 : b < i
        · rw [if_pos h2, if_pos (by omega)]
        · rw [if_neg h2, if_neg (by omega)]
    rw [e]
    rfl
  · show l_X10_empty_23 T 17 kk (n + 1) 64 _ = _
    rw [l_X10_empty_23]
    exact c_pos (by decide) rfl
/-- the draft, emptied -/
def emM (M : aM) : aM := aup (aup (aup (setc (setc M 18 (ovr (M 18) 8 (fun _ => 0))) 22 (ovr (M 22) 64 (fun _ => 0))) 17 4 0) 17 9 0) 17 18 0
theorem c_empty : f_X10_empty T 17 M = some (0, emM M) := by
  unfold f_X10_empty
  refine (c_empty2 _).trans ((c_empty23 _).trans ?_)
  rw [setc_ne (show (22 : Nat) ≠ 18 by decide)]
  rfl
/-- the whole text -/
theorem c_read (hn : n ≤ 900) (hl : ∀ i, i < 8 → M 31 i = (pkd (12 + i) : Int) ∧ M 32 i = -1) (hr : ∀ k, k < 8 → M 1000001 k = (rom k : Int)) (hB : ∀ k, k < n → M 1 k = B k) : ∃ M', f_X7_read T (n : Int) M = some (bI (decide (M' 16 1 = 0)), M') ∧ kR M M' ∧ match sAll B n 1000 (fun _ _ => 0) (spq B n 0) with
    | .error er => M' 16 1 = (er.1 : Int) ∧ M' 16 2 = (er.2 : Int)
    | .ok A' => CD M' A' ∧ M' 16 1 = 0 := by
  have kE0 : kR M (emM M) := by
    have k0 : kR M (setc (setc M 18 (ovr (M 18) 8 (fun _ => 0))) 22 (ovr (M 22) 64 (fun _ => 0))) := by
      refine ⟨fun m hm => ?_, fun i _ => ⟨?_, ?_⟩⟩
      · rw [setc_ne (by omega), setc_ne (by omega)]
      · rw [setc_ne (by decide), setc_ne (by decide)]
      · rw [setc_ne (by decide), setc_ne (by decide)]
    exact ((k0.trans (kR_up (by decide))).trans (kR_up (by decide))).trans (kR_up (by decide))
  have hcd : ∀ M2 : aM, (∀ m, m ≠ 34 → m ≠ 16 → M2 m = emM M m) → M2 16 7 = 8 → CD M2 (fun _ _ => 0) := by
    intro M2 he h16
    have e18 : ∀ i, i < 8 → emM M 18 i = 0 := fun i hi => by
      unfold emM
      rw [aup_nc (by decide), aup_nc (by decide), aup_nc (by decide), setc_ne (by decide), setc_at, ovr_at hi]; rfl
    have e22 : ∀ i, i < 64 → emM M 22 i = 0 := fun i hi => by
      unfold emM
      rw [aup_nc (by decide), aup_nc (by decide), aup_nc (by decide), setc_at, ovr_at hi]; rfl
    refine ⟨fun i hi => by rw [he 18 (by decide) (by decide)]; exact e18 i hi, fun e => absurd e (by decide), ?_, fun r _ _ k hk => absurd hk (Nat.not_lt_zero k), fun a b ha hb => ?_, by rw [h16]; rfl, fun i hi => ?_, fun k hk => ?_⟩
    · rw [he 17 (by decide) (by decide)]
      refine ⟨?_, ?_, ?_⟩
      · unfold emM; rw [aup_ne2 (by decide), aup_ne2 (by decide)]; exact aup_at
      · unfold emM; rw [aup_ne2 (by decide)]; exact aup_at
      · exact aup_at
    · rw [he 22 (by decide) (by decide), e22 _ (by omega)]
      show (0 : Int) = if wy (fun _ _ => 0) a b < 0 then _ else 0
      rw [if_neg (Nat.not_lt_zero _)]
    · rw [he 31 (by decide) (by decide), he 32 (by decide) (by decide)]
      rw [(kE0.2 i hi).1, (kE0.2 i hi).2]
      exact hl i hi
    · rw [he 1000001 (by decide) (by decide), kE0.1 1000001 (by decide)]
      exact hr k hk
  have h34 : (if (900 : Int) < (n : Int) then (900 : Int) else (n : Int)) = (n : Int) := if_neg (by omega)
  have a1 : aup (aup (aup (aup (aup (emM M) 16 7 8) 16 1 0) 16 2 (-1)) 34 1 (n : Int)) 34 2 0 34 1 = (n : Int) := by rw [aup_ne2 (by decide)]; exact aup_at
  have a2 : aup (aup (aup (aup (aup (emM M) 16 7 8) 16 1 0) 16 2 (-1)) 34 1 (n : Int)) 34 2 0 34 2 = ((0 : Nat) : Int) := aup_at
  have a3 : ∀ k, k < n → aup (aup (aup (aup (aup (emM M) 16 7 8) 16 1 0) 16 2 (-1)) 34 1 (n : Int)) 34 2 0 1 k = B k := fun k hk => by
    rw [aup_nc (by decide), aup_nc (by decide), aup_nc (by decide), aup_nc (by decide), aup_nc (by decide), kE0.1 1 (by decide)]
    exact hB k hk
  obtain ⟨M1, q1, q2, q3⟩ := h_adv (T := T) hn (Nat.zero_le n) a1 a2 a3
  have z16 : M1 16 1 = 0 := by rw [q3 16 (by decide), aup_nc (by decide), aup_nc (by decide), aup_ne2 (by decide)]; exact aup_at
  have z7 : M1 16 7 = 8 := by rw [q3 16 (by decide), aup_nc (by decide), aup_nc (by decide), aup_ne2 (by decide), aup_ne2 (by decide)]; exact aup_at
  have hcd1 : CD M1 (fun _ _ => 0) := hcd M1 (fun m h1 h2 => by rw [q3 m h1, aup_nc h1, aup_nc h1, aup_nc h2, aup_nc h2, aup_nc h2]) z7
  have k1 : kR M M1 := (((((kE0.trans (kR_up (by decide))).trans (kR_up (by decide))).trans (kR_up (by decide))).trans (kR_up (by decide))).trans (kR_up (by decide))).trans (kA.kR q3)
  obtain ⟨i', M', u1, u2, u3⟩ := c_loop (T := T) hn (fun w38 w39 m42 => if (m42 16 1) = 0 then some (1, m42) else some (0, m42)) 1000 (fun _ _ => 0) (spq B n 0) 0 98999 M1 WFd.zero q2 hcd1 (by omega) (by omega)
  refine ⟨M', ?_, k1.trans u2, ?_⟩
  · unfold f_X7_read
    refine c_bind c_empty (c_some (c_some (c_some (c_bind (v := (0, M1)) ?_ ?_))))
    · unfold f_X9_begin
      rw [h34]
      exact c_some (c_some (c_bind q1 rfl))
    · have e : l_X7_read_35 T (fun w38 w39 m42 => if (m42 16 1) = 0 then some (1, m42) else some (0, m42)) FU 1 0 M1 = (if M' 16 1 = 0 then some (1, M') else some (0, M')) := u1
      refine e.trans ?_
      split
      · rename_i hz; rw [decide_eq_true hz]; rfl
      · rename_i hz; rw [decide_eq_false hz]; rfl
  · cases hq : sAll B n 1000 (fun _ _ => 0) (spq B n 0) with
    | error e => rw [hq] at u3; exact u3
    | ok A' => rw [hq] at u3; exact ⟨u3.1, u3.2.trans z16⟩
end Crd
