/-! ===== the model reads: the whole text ===== -/
section Mra
variable {B : Nat → Int} {n p : Nat} {T w : Nat} {M M1 : aM} {A : aA}
theorem sBeg_j {j : Nat} (h : lid B n p = j) (hj : j < 8) (h0 : j ≠ 0) (h01 : A 0 0 ≤ 1) (hr : A 0 j ≤ rom j) : ((sBeg B n A p).bind fun i => sRest B n i A (kX B n p)) = (sBg B n A (A 0 j) (rom j) p).bind fun p1 => sRest B n j A p1 := by
  unfold sBeg sBg
  rw [h, if_neg (by omega), if_neg (fun e => h0 e.1)]
  by_cases h5 : rom j ≤ A 0 j
  · rw [if_pos h5, if_pos h5]; rfl
  · rw [if_neg h5, if_neg h5]
    by_cases h6 : A 0 0 = 0
    · rw [if_pos ⟨h0, h6⟩, if_pos h6]; rfl
    · rw [if_neg (fun e => h6 e.2), if_neg h6]; rfl
theorem mLn.out {x : Option (Int × aM)} {e : Except rE (aA × Nat)} (h : mLn B n w x M e) : mLn B n w (x.bind fun y => some (0, y.2)) M e := by
  unfold mLn at h ⊢
  cases e with
  | error er => obtain ⟨M', e1, e2⟩ := h; exact ⟨M', c_bind e1 rfl, e2⟩
  | ok y => obtain ⟨M', e1, e2⟩ := h; exact ⟨M', c_bind e1 rfl, e2⟩
theorem mLn.eq {x x' : Option (Int × aM)} {e e' : Except rE (aA × Nat)} (h : mLn B n w x M e) (hx : x' = x) (he : e' = e) : mLn B n w x' M e' := by rw [hx, he]; exact h
theorem m_line (hn : n ≤ 900) (hA : WFd A) (h : KM B n M p) (h4 : M 138 4 = (w : Int)) (hw : okW T (w : Int)) (hr : MRd M w A) : mLn B n w (f_X13_readLine T M) M ((sBeg B n A p).bind fun j => sRest B n j A (kX B n p)) := by
  have hle := lid_le (B := B) (n := n) (p := p)
  have h01 := hA.1
  have hwd : ∀ j : Nat, j < 8 → ∀ v : Int, v = 2000000 + ((24 + j : Nat) : Int) → f_X13_isWord T v M = some (bI (decide (lid B n p = j))) := fun j hj v hv => by
    rw [h.wrd (T := T) (k := 24 + j) (by omega) hv, isw_line hj]
  have w0 := hwd 0 (by decide) 2000024 rfl; have w1 := hwd 1 (by decide) 2000025 rfl; have w2 := hwd 2 (by decide) 2000026 rfl; have w3 := hwd 3 (by decide) 2000027 rfl
  have w4 := hwd 4 (by decide) 2000028 rfl; have w5 := hwd 5 (by decide) 2000029 rfl; have w6 := hwd 6 (by decide) 2000030 rfl; have w7 := hwd 7 (by decide) 2000031 rfl
  have hk : lid B n p ≠ 8 → kS B n p = 1 := fun e => by
    by_cases q : kS B n p = 1
    · exact q
    · exact absurd (by unfold lid; rw [if_neg q]) e
  unfold f_X13_readLine
  have no : ∀ j : Nat, lid B n p ≠ j → bI (decide (lid B n p = j)) = 0 := fun j e => by rw [decide_eq_false e]; rfl
  have ye : ∀ j : Nat, lid B n p = j → ¬ bI (decide (lid B n p = j)) = 0 := fun j e => by rw [decide_eq_true e]; decide
  by_cases q0 : lid B n p = 0
  · refine (ml0 (T := T) hn hA h h4 hw hr (hk (by omega))).out.eq (c_bind w0 (c_neg (ye 0 q0) rfl)) ?_
    unfold sBeg
    rw [q0, if_neg (by decide)]
    by_cases h0 : 0 < A 0 0
    · rw [if_pos ⟨rfl, h0⟩, if_pos h0]; rfl
    · rw [if_neg (fun e => h0 e.2), if_neg h0, if_neg (by show ¬ 1 ≤ A 0 0; omega), if_neg (fun e => e.1 rfl)]; rfl
  by_cases q1 : lid B n p = 1
  · exact (ml1 (T := T) hn hA h h4 hw hr (hk (by omega))).out.eq (c_bind w0 (c_pos (no 0 q0) (c_bind w1 (c_neg (ye 1 q1) rfl)))) (sBeg_j q1 (by decide) (by decide) h01.1 h01.2.1)
  by_cases q2 : lid B n p = 2
  · exact (ml2 (T := T) hn hA h h4 hw hr (hk (by omega))).out.eq (c_bind w0 (c_pos (no 0 q0) (c_bind w1 (c_pos (no 1 q1) (c_bind w2 (c_neg (ye 2 q2) rfl)))))) (sBeg_j q2 (by decide) (by decide) h01.1 h01.2.2.1)
  by_cases q3 : lid B n p = 3
  · exact (ml3 (T := T) hn hA h h4 hw hr (hk (by omega))).out.eq (c_bind w0 (c_pos (no 0 q0) (c_bind w1 (c_pos (no 1 q1) (c_bind w2 (c_pos (no 2 q2) (c_bind w3 (c_neg (ye 3 q3) rfl)))))))) (sBeg_j q3 (by decide) (by decide) h01.1 h01.2.2.2.1)
  by_cases q4 : lid B n p = 4
  · exact (ml4 (T := T) hn hA h h4 hw hr (hk (by omega))).out.eq (c_bind w0 (c_pos (no 0 q0) (c_bind w1 (c_pos (no 1 q1) (c_bind w2 (c_pos (no 2 q2) (c_bind w3 (c_pos (no 3 q3) (c_bind w4 (c_neg (ye 4 q4) rfl)))))))))) (sBeg_j q4 (by decide) (by decide) h01.1 h01.2.2.2.2.1)
  by_cases q5 : lid B n p = 5
  · exact (ml5 (T := T) hn hA h h4 hw hr (hk (by omega))).out.eq (c_bind w0 (c_pos (no 0 q0) (c_bind w1 (c_pos (no 1 q1) (c_bind w2 (c_pos (no 2 q2) (c_bind w3 (c_pos (no 3 q3) (c_bind w4 (c_pos (no 4 q4) (c_bind w5 (c_neg (ye 5 q5) rfl)))))))))))) (sBeg_j q5 (by decide) (by decide) h01.1 h01.2.2.2.2.2.1)
  by_cases q6 : lid B n p = 6
  · exact (ml6 (T := T) hn hA h h4 hw hr (hk (by omega))).out.eq (c_bind w0 (c_pos (no 0 q0) (c_bind w1 (c_pos (no 1 q1) (c_bind w2 (c_pos (no 2 q2) (c_bind w3 (c_pos (no 3 q3) (c_bind w4 (c_pos (no 4 q4) (c_bind w5 (c_pos (no 5 q5) (c_bind w6 (c_neg (ye 6 q6) rfl)))))))))))))) (sBeg_j q6 (by decide) (by decide) h01.1 h01.2.2.2.2.2.2.1)
  by_cases q7 : lid B n p = 7
  · exact (ml7 (T := T) hn hA h h4 hw hr (hk (by omega))).out.eq (c_bind w0 (c_pos (no 0 q0) (c_bind w1 (c_pos (no 1 q1) (c_bind w2 (c_pos (no 2 q2) (c_bind w3 (c_pos (no 3 q3) (c_bind w4 (c_pos (no 4 q4) (c_bind w5 (c_pos (no 5 q5) (c_bind w6 (c_pos (no 6 q6) (c_bind w7 (c_neg (ye 7 q7) rfl)))))))))))))))) (sBeg_j q7 (by decide) (by decide) h01.1 h01.2.2.2.2.2.2.2)
  have q8 : lid B n p = 8 := by omega
  obtain ⟨M', e1, e2⟩ := m_flaw (T := T) h 1
  have hs : sBeg B n A p = .error (1, p) := by unfold sBeg; rw [if_pos q8]
  rw [hs]
  exact ⟨M', c_bind w0 (c_pos (no 0 q0) (c_bind w1 (c_pos (no 1 q1) (c_bind w2 (c_pos (no 2 q2) (c_bind w3 (c_pos (no 3 q3) (c_bind w4 (c_pos (no 4 q4) (c_bind w5 (c_pos (no 5 q5) (c_bind w6 (c_pos (no 6 q6) (c_bind w7 (c_pos (no 7 q7) (c_bind e1 rfl)))))))))))))))), e2⟩
/-- what a text read leaves alone -/
def kP (w : Nat) (M M' : aM) : Prop := (∀ k, k < 8 ∨ 15 < k → M' 138 k = M 138 k) ∧ ∀ m, m ≠ 138 → m < w ∨ w + 15 ≤ m → M' m = M m
theorem kP.trans {M M1 M2 : aM} (h : kP w M M1) (h2 : kP w M1 M2) : kP w M M2 := ⟨fun k hk => (h2.1 k hk).trans (h.1 k hk), fun m hm h3 => (h2.2 m hm h3).trans (h.2 m hm h3)⟩
theorem kL.kP {M' : aM} (h : kL w M M') : kP w M M' := ⟨fun k hk => h.1 k (by omega), h.2⟩
theorem kF.kP {M' : aM} (h : kF M M') : kP w M M' := ⟨h.1, fun m hm _ => h.2 m hm⟩
theorem kT.kL {M' : aM} (h : kT M M') : kL w M M' := h.kG.kL
/-- how the text comes out -/
def mAl (w : Nat) (M M' : aM) (e : Except rE aA) : Prop := kP w M M' ∧ match e with
  | .error er => M' 138 12 = (er.1 : Int) ∧ M' 138 13 = (er.2 : Int)
  | .ok A' => MRd M' w A' ∧ M' 138 12 = M 138 12
theorem mAl.of {M' : aM} {e : Except rE aA} (h : mAl w M1 M' e) (hk : kL w M M1) : mAl w M M' e := by
  refine ⟨hk.kP.trans h.1, ?_⟩
  have h2 := h.2
  cases e with
  | error er => exact h2
  | ok A' => exact ⟨h2.1, h2.2.trans (hk.1 12 (by decide))⟩
/-- the last of it -/
def rAl (T : Nat) (m11 : aM) : Option (Int × aM) :=
 if (m11 138 9) = 1 then
 if okW T (m11 138 4) then
 if (m11 (m11 138 4).toNat 3) = 0 then
 (f_X13_flaw T 6 m11).bind fun x16 =>
 some (0, x16.2) else
 some (0, m11) else none else
 (f_X13_flaw T 1 m11).bind fun x20 =>
 if okW T (x20.2 138 4) then
 if (x20.2 (x20.2 138 4).toNat 3) = 0 then
 (f_X13_flaw T 6 x20.2).bind fun x26 =>
 some (0, x26.2) else
 some (0, x20.2) else none
theorem rAl_5 (h5 : M 138 9 = 5) (h4 : M 138 4 = (w : Int)) (hw : okW T (w : Int)) : rAl T M = some (0, M) := by
  unfold rAl
  refine c_neg (by rw [h5]; decide) (c_bind (o_flaw h5 1) ?_)
  show (if okW T (M 138 4) then _ else _) = _
  rw [h4]
  refine c_ite hw ?_
  split
  · exact c_bind (o_flaw h5 6) rfl
  · rfl
theorem m_loop (hn : n ≤ 900) (hw : okW T (w : Int)) : ∀ (f : Nat) (A : aA) (p m : Nat) (M : aM), WFd A → KM B n M p → M 138 4 = (w : Int) → MRd M w A → n - p < 2 * f → ∃ M', l_X13_readAll_2 T (fun _ m11 => rAl T m11) (m + f + 1) 1 M = some (0, M') ∧ mAl w M M' (sAll B n f A p)
  | 0, A, p, m, M, _, _, _, _, h => absurd h (Nat.not_lt_zero _)
  | f + 1, A, p, m, M, hA, h, h4, hr, hf => by
    have hge := okw_ge hw
    have h10 : ¬ ((1 : Int) = 0) := by decide
    have hp := h.2.1
    have s1 := m_line (T := T) hn hA h h4 hw hr
    have hend : ∀ M', l_X13_readAll_2 T (fun _ m11 => rAl T m11) (m + f + 1) 0 M' = rAl T M' := fun M' => by
      rw [l_X13_readAll_2]; exact if_pos rfl
    have pre : ∀ (M1 : aM) y, f_X13_readLine T M = some (0, M1) → ((f_X13_eatsSemicolon T M1).bind fun x6 => l_X13_readAll_2 T (fun _ m11 => rAl T m11) (m + f + 1) x6.1 x6.2) = y → l_X13_readAll_2 T (fun _ m11 => rAl T m11) (m + (f + 1) + 1) 1 M = y := by
      intro M1 y e1 hy
      show l_X13_readAll_2 T (fun _ m11 => rAl T m11) ((m + f + 1) + 1) 1 M = y
      rw [l_X13_readAll_2]
      exact c_neg h10 (c_bind e1 hy)
    have bad : ∀ (er : rE), (∃ M', f_X13_readLine T M = some (0, M') ∧ mE M M' er) → ∃ M', l_X13_readAll_2 T (fun _ m11 => rAl T m11) (m + (f + 1) + 1) 1 M = some (0, M') ∧ mAl w M M' (.error er) := by
      intro er ⟨M', e1, e2⟩
      refine ⟨M', pre M' _ e1 (c_bind (v := (0, M')) ?_ ((hend M').trans (rAl_5 e2.1 ((e2.2.2.2.1 4 (by decide)).trans h4) hw))), e2.2.2.2.kP, e2.2.1, e2.2.2.1⟩
      unfold f_X13_eatsSemicolon
      exact c_neg (by rw [e2.1]; decide) rfl
    unfold sAll
    cases hb : sBeg B n A p with
    | error er =>
      rw [hb] at s1
      exact bad er s1
    | ok j =>
      rw [hb] at s1
      obtain ⟨b1, b2, b3, b4, b5, b6⟩ := sBeg_ok hb
      have s2 : mLn B n w (f_X13_readLine T M) M (sRest B n j A (kX B n p)) := s1
      show ∃ M', _ ∧ mAl w M M' ((sRest B n j A (kX B n p)).bind _)
      cases hs : sRest B n j A (kX B n p) with
      | error er =>
        rw [hs] at s2
        exact bad er s2
      | ok x =>
        rw [hs] at s2
        obtain ⟨M1, e1, e2, e3, e4⟩ := s2
        have hkx := kX_le (B := B) hp
        obtain ⟨w1, w2, w3, w4⟩ := sRest_ok hA hkx.1 b1 b3 b4 b5 hs
        have hpn : p < n := by
          rcases Nat.lt_or_ge p n with q | q
          · exact q
          · have := (kS_end (B := B)).mpr q; omega
        have h41 : M1 138 4 = (w : Int) := (e4.1 4 (by decide)).trans h4
        have h9 : M1 138 9 = (mst (kS B n x.2) : Int) := e2.1.2.2.1
        have hw3 : M1 w 3 = (x.1 0 1 : Int) := e3.2.1 1 (by decide) (by decide)
        show ∃ M', _ ∧ mAl w M M' (if kS B n x.2 = 0 then (if x.1 0 1 = 0 then .error (6, x.2) else .ok x.1) else if kS B n x.2 = 3 then sAll B n f x.1 (kX B n x.2) else .error (1, x.2))
        by_cases h0 : kS B n x.2 = 0
        · rw [if_pos h0]
          have h91 : M1 138 9 = 1 := by rw [h9, h0]; rfl
          have es : f_X13_eatsSemicolon T M1 = some (0, M1) := by
            unfold f_X13_eatsSemicolon
            exact c_neg (by rw [h91]; decide) rfl
          by_cases hc : x.1 0 1 = 0
          · rw [if_pos hc]
            obtain ⟨M2, r1, r2⟩ := m_flaw (T := T) e2 6
            refine ⟨M2, pre M1 _ e1 (c_bind es ((hend M1).trans ?_)), e4.kP.trans r2.2.2.2.kP, r2.2.1, r2.2.2.1⟩
            unfold rAl
            rw [h41, Int.toNat_natCast, hw3]
            exact c_pos h91 (c_ite hw (c_pos (by omega) (c_bind r1 rfl)))
          · rw [if_neg hc]
            refine ⟨M1, pre M1 _ e1 (c_bind es ((hend M1).trans ?_)), e4.kP, e3, e4.1 12 (by decide)⟩
            unfold rAl
            rw [h41, Int.toNat_natCast, hw3]
            exact c_pos h91 (c_ite hw (c_neg (by omega) rfl))
        · rw [if_neg h0]
          by_cases h3 : kS B n x.2 = 3
          · rw [if_pos h3]
            obtain ⟨M2, r1, r2, r3⟩ := e2.on (T := T) hn (by rw [h3]; decide)
            have hx2 : x.2 < n := by
              rcases Nat.lt_or_ge x.2 n with q | q
              · exact q
              · exact absurd (kS_end.mpr q) h0
            have hk2 := kX_le (B := B) w4
            obtain ⟨M', u1, u2⟩ := m_loop hn hw f x.1 (kX B n x.2) m M2 w1 r2 ((r3.1 4 (by decide)).trans h41) (e3.cong hge r3.2) (by have := hkx.2 hpn; have := hk2.2 hx2; omega)
            refine ⟨M', pre M1 _ e1 (c_bind (v := (1, M2)) ?_ u1), u2.of (e4.trans r3.kL)⟩
            unfold f_X13_eatsSemicolon
            exact c_pos (by rw [h9, h3]; rfl) (c_bind r1 rfl)
          · rw [if_neg h3]
            obtain ⟨M2, r1, r2⟩ := m_flaw (T := T) e2 1
            have hm : M1 138 9 ≠ 4 ∧ M1 138 9 ≠ 1 := by
              rw [h9]
              have := kS_lt B n x.2
              unfold mst
              split <;> omega
            refine ⟨M2, pre M1 _ e1 (c_bind (v := (0, M1)) ?_ ((hend M1).trans ?_)), e4.kP.trans r2.2.2.2.kP, r2.2.1, r2.2.2.1⟩
            · unfold f_X13_eatsSemicolon
              exact c_neg hm.1 rfl
            · unfold rAl
              refine c_neg hm.2 (c_bind r1 ?_)
              show (if okW T (M2 138 4) then _ else _) = _
              rw [(r2.2.2.2.1 4 (by decide)).trans h41]
              refine c_ite hw ?_
              split
              · exact c_bind (o_flaw r2.1 6) rfl
              · rfl
theorem m_readAll (hn : n ≤ 900) (hw : okW T (w : Int)) (h : KM B n M (spq B n 0)) (h4 : M 138 4 = (w : Int)) (hr : MRd M w (fun _ _ => 0)) : ∃ M', f_X13_readAll T M = some (0, M') ∧ mAl w M M' (sAll B n 1000 (fun _ _ => 0) (spq B n 0)) := by
  obtain ⟨M', e1, e2⟩ := m_loop (T := T) hn hw 1000 (fun _ _ => 0) (spq B n 0) 98999 M WFd.zero h h4 hr (by omega)
  exact ⟨M', e1, e2⟩
end Mra
