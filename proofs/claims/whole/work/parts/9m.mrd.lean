/-! ===== the model reads: words, numbers, names, caves ===== -/
def cf (i : Nat) : Nat := [0, 3, 5, 7, 8, 9, 10, 11, 13].getD i 0
def mvl (r x : Nat) : Nat := if r = 14 then (if x = 1 then 0 else if x = 3 then 1 else 2) else x
/-- the model's well as it is read -/
def MRd (M : aM) (w : Nat) (A : aA) : Prop :=
  (M w 0 = (if A 0 0 = 1 then (A 1 0 : Int) else -1) ∧ (A 0 0 = 1 → M w 1 = (A 1 1 : Int) ∧ M w 2 = (A 1 2 : Int))) ∧ (∀ i, 1 ≤ i → i ≤ 8 → M w (cf i) = (A 0 i : Int)) ∧ (M w 4 = (A 1 3 : Int) ∧ M w 6 = (A 1 4 : Int) ∧ M w 12 = (A 1 5 : Int)) ∧
  ∀ r, 2 ≤ r → r ≤ 15 → ∀ k, k < A 0 (ctr r) → M (w + (r - 1)) k = (mvl r (A r k) : Int)
def kF (M M' : aM) : Prop := (∀ k, k < 8 ∨ 15 < k → M' 138 k = M 138 k) ∧ ∀ m, m ≠ 138 → M' m = M m
def kG (M M' : aM) : Prop := (∀ k, k < 8 ∨ k = 12 ∨ k = 13 ∨ 15 < k → M' 138 k = M 138 k) ∧ ∀ m, m ≠ 138 → M' m = M m
theorem kF.refl (M : aM) : kF M M := ⟨fun _ _ => rfl, fun _ _ => rfl⟩
theorem kF.trans {M M1 M2 : aM} (h : kF M M1) (h2 : kF M1 M2) : kF M M2 := ⟨fun k hk => (h2.1 k hk).trans (h.1 k hk), fun m hm => (h2.2 m hm).trans (h.2 m hm)⟩
theorem kG.trans {M M1 M2 : aM} (h : kG M M1) (h2 : kG M1 M2) : kG M M2 := ⟨fun k hk => (h2.1 k hk).trans (h.1 k hk), fun m hm => (h2.2 m hm).trans (h.2 m hm)⟩
theorem kT.kG {M M' : aM} (h : kT M M') : kG M M' := ⟨fun k hk => h.1 k (by omega), h.2⟩
theorem kG.kF {M M' : aM} (h : kG M M') : kF M M' := ⟨fun k hk => h.1 k (by omega), h.2⟩
theorem kT.kF {M M' : aM} (h : kT M M') : kF M M' := h.kG.kF
/-- a fault, as the model notes it -/
def mE (M M' : aM) (e : rE) : Prop := M' 138 9 = 5 ∧ M' 138 12 = (e.1 : Int) ∧ M' 138 13 = (e.2 : Int) ∧ kF M M'
section Mrd
variable {B : Nat → Int} {n p : Nat} {T w : Nat} {M M1 : aM} {A : aA}
theorem mE.of {e : rE} {M' : aM} (h : mE M1 M' e) (hk : kF M M1) : mE M M' e := ⟨h.1, h.2.1, h.2.2.1, hk.trans h.2.2.2⟩
theorem MRd.cong {M' : aM} (hw : 154 ≤ w) (h : MRd M w A) (e : ∀ m, m ≠ 138 → M' m = M m) : MRd M' w A := by
  unfold MRd
  rw [e w (by omega)]
  refine ⟨h.1, h.2.1, h.2.2.1, fun r h2 h15 => ?_⟩
  rw [e _ (by omega)]
  exact h.2.2.2 r h2 h15
/-- all is over: nothing more is done -/
theorem o_goesOn (h : M 138 9 = 5) : f_X13_goesOn T M = some (0, M) := by unfold f_X13_goesOn; rw [if_pos h]
theorem o_flaw (h : M 138 9 = 5) (c : Int) : f_X13_flaw T c M = some (0, M) := by unfold f_X13_flaw; rw [if_pos h]
theorem o_isWord (h : M 138 9 = 5) {v : Int} (hv : 0 ≤ v) : f_X13_isWord T v M = some 0 := by
  unfold f_X13_isWord
  rw [if_pos hv, if_neg (by rw [h]; decide)]
theorem o_needs (h : M 138 9 = 5) {v : Int} (hv : 0 ≤ v) : f_X13_needs T v M = some (0, M) := by
  unfold f_X13_needs
  exact c_ite hv (c_bind (o_isWord h hv) (c_pos rfl (c_bind (o_flaw h 1) (c_bind (o_goesOn h) rfl))))
theorem o_readPart (h : M 138 9 = 5) {v a b : Int} (hv : 0 ≤ v) : f_X13_readPart T v a b M = some (a, M) := by
  unfold f_X13_readPart
  refine c_ite hv (c_bind (o_needs h hv) (c_neg (by show ¬ M 138 9 = 3; rw [h]; decide) (c_bind (o_flaw h 1) ?_)))
  unfold b_X13_readPart_38
  exact c_pos h (c_bind (o_goesOn h) rfl)
theorem o_isName (h : M 138 9 = 5) : f_X13_isName T M = some 0 := by
  unfold f_X13_isName
  rw [if_neg (by rw [h]; decide)]
theorem g_find (h : MRd M w A) (h15 : A 0 8 ≤ 15) (u : Int) : f_X12_find T w u M = some (if fst (fun i => decide ((A 13 i : Int) = u)) (A 0 8) < A 0 8 then ((fst (fun i => decide ((A 13 i : Int) = u)) (A 0 8) : Nat) : Int) else -1) := by
  have h13 : M w 13 = (A 0 8 : Int) := h.2.1 8 (by decide) (by decide)
  have hr : ∀ i, i < A 0 8 → M (w + 12) i = (A 13 i : Int) := fun i hi => h.2.2.2 13 (by decide) (by decide) i hi
  have hor : (if fst (fun i => decide ((A 13 i : Int) = u)) (A 0 8) < A 0 8 then some ((fst (fun i => decide ((A 13 i : Int) = u)) (A 0 8) : Nat) : Int) else some (-1)) = some (if fst (fun i => decide ((A 13 i : Int) = u)) (A 0 8) < A 0 8 then ((fst (fun i => decide ((A 13 i : Int) = u)) (A 0 8) : Nat) : Int) else -1) := by split <;> rfl
  refine Eq.trans ?_ hor
  unfold f_X12_find
  refine find_loop (fun m i => l_X12_find_2 T w u M (fun w5 => some (-1)) m i) (A 0 8) (fun i => decide ((A 13 i : Int) = u)) (fun i => some (i : Int)) (y := some (-1)) (by omega) (fun i m hi hp => ?_) (fun i m hi hp => ?_) (fun m => ?_)
  · show l_X12_find_2 T w u M _ (m + 1) (i : Int) = _
    rw [l_X12_find_2, h13, Int.toNat_natCast, hr i hi]
    exact c_neg (by omega) (c_ite (by omega) (c_neg (fun e => (of_decide_eq_false hp) (alcmp_0.mp e)) (c_ite (by omega) rfl)))
  · show l_X12_find_2 T w u M _ (m + 1) (i : Int) = _
    rw [l_X12_find_2, h13, Int.toNat_natCast, hr i hi]
    exact c_neg (by omega) (c_ite (by omega) (c_pos (alcmp_0.mpr (of_decide_eq_true hp)) rfl))
  · show l_X12_find_2 T w u M _ (m + 1) ((A 0 8 : Nat) : Int) = _
    rw [l_X12_find_2, h13]
    exact c_pos (Int.le_refl _) rfl
theorem g_findn (h : MRd M w A) (h15 : A 0 8 ≤ 15) (u : Nat) : f_X12_find T w (u : Int) M = some (if fnn A u < A 0 8 then (fnn A u : Int) else -1) := by
  have e : fst (fun i => decide ((A 13 i : Int) = (u : Int))) (A 0 8) = fnn A u := fst_cong fun k _ => by rw [decide_eq_decide]; omega
  rw [g_find h h15, e]
theorem o_cave46 (h : M 138 9 = 5) {v : Int} : b_X13_caveAtHand_46 T v M = some (0, M) := by unfold b_X13_caveAtHand_46; rw [if_pos h]
theorem o_cave41 (h : M 138 9 = 5) {v : Int} : b_X13_caveAtHand_41 T v M = some (0, M) := by
  unfold b_X13_caveAtHand_41
  exact c_bind (o_flaw h 2) (o_cave46 h)
theorem o_cave12 (h : M 138 9 = 5) (h4 : M 138 4 = (w : Int)) (hw : okW T (w : Int)) (hr : MRd M w A) (h15 : A 0 8 ≤ 15) : b_X13_caveAtHand_12 T M = some (0, M) := by
  unfold b_X13_caveAtHand_12
  rw [h4, Int.toNat_natCast]
  refine c_ite hw (c_bind (g_find hr h15 _) ?_)
  by_cases hf : fst (fun i => decide ((A 13 i : Int) = M 138 14)) (A 0 8) < A 0 8
  · rw [if_pos hf]
    refine c_neg (by omega) (c_ite (by omega) ?_)
    split
    · exact o_cave46 h
    · exact o_cave41 h
  · rw [if_neg hf]
    exact c_pos rfl (o_cave41 h)
theorem o_cave (h : M 138 9 = 5) (h4 : M 138 4 = (w : Int)) (hw : okW T (w : Int)) (hr : MRd M w A) (h15 : A 0 8 ≤ 15) : f_X13_caveAtHand T M = some (0, M) := by
  unfold f_X13_caveAtHand
  exact c_bind (o_isName h) (c_pos rfl (c_bind (o_flaw h 1) (o_cave12 h h4 hw hr h15)))
theorem o_readCave (h : M 138 9 = 5) (h4 : M 138 4 = (w : Int)) (hw : okW T (w : Int)) (hr : MRd M w A) (h15 : A 0 8 ≤ 15) : f_X13_readCave T M = some (0, M) := by
  unfold f_X13_readCave
  exact c_bind (o_cave h h4 hw hr h15) (c_bind (o_goesOn h) rfl)
theorem o_fresh32 (h : M 138 9 = 5) : b_X13_readFresh_32 T M = some (M 138 14, M) := by
  unfold b_X13_readFresh_32
  exact c_bind (o_goesOn h) rfl
theorem o_fresh12 (h : M 138 9 = 5) (h4 : M 138 4 = (w : Int)) (hw : okW T (w : Int)) (hr : MRd M w A) (h15 : A 0 8 ≤ 15) : b_X13_readFresh_12 T M = some (M 138 14, M) := by
  unfold b_X13_readFresh_12
  rw [h4, Int.toNat_natCast]
  refine c_ite hw (c_bind (g_find hr h15 _) ?_)
  by_cases hf : fst (fun i => decide ((A 13 i : Int) = M 138 14)) (A 0 8) < A 0 8
  · rw [if_pos hf]
    exact c_neg (by omega) (c_bind (o_flaw h 3) (o_fresh32 h))
  · rw [if_neg hf]
    exact c_pos rfl (o_fresh32 h)
theorem o_fresh (h : M 138 9 = 5) (h4 : M 138 4 = (w : Int)) (hw : okW T (w : Int)) (hr : MRd M w A) (h15 : A 0 8 ≤ 15) : f_X13_readFresh T M = some (M 138 14, M) := by
  unfold f_X13_readFresh
  exact c_bind (o_isName h) (c_pos rfl (c_bind (o_flaw h 1) (o_fresh12 h h4 hw hr h15)))
theorem o_two (h : M 138 9 = 5) (h4 : M 138 4 = (w : Int)) (hw : okW T (w : Int)) (hr : MRd M w A) (h15 : A 0 8 ≤ 15) : f_X13_readTwo T M = some (0, aup M 138 15 0) := by
  unfold f_X13_readTwo
  exact c_bind (o_readCave h h4 hw hr h15) (c_bind (o_cave h h4 hw hr h15) (c_some (c_pos (by rw [aup_ne2 (by decide)]; exact h) rfl)))
/-- a flaw, noted -/
theorem m_flaw (h : KM B n M p) (c : Nat) : ∃ M', f_X13_flaw T (c : Int) M = some (0, M') ∧ mE M M' (c, p) := by
  have h5 := mst_5 (kS_lt B n p)
  refine ⟨aup (aup (aup M 138 12 (c : Int)) 138 13 (p : Int)) 138 9 5, ?_, aup_at, ?_, ?_, ⟨fun k hk => ?_, fun m hm => ?_⟩⟩
  · unfold f_X13_flaw
    refine c_neg (by rw [h.1.2.2.1]; omega) (c_some (c_some ?_))
    rw [aup_ne2 (by decide), h.1.2.1]
    rfl
  · rw [aup_ne2 (by decide), aup_ne2 (by decide)]; exact aup_at
  · rw [aup_ne2 (by decide)]; exact aup_at
  · rw [aup_ne2 (by omega), aup_ne2 (by omega), aup_ne2 (by omega)]
  · rw [aup_nc hm, aup_nc hm, aup_nc hm]
theorem isw_4 {k : Nat} (h : isw B n k p = true) : kS B n p = 1 := by
  unfold isw at h
  rw [Bool.and_eq_true, decide_eq_true_eq] at h
  exact h.1
theorem m_needs (hn : n ≤ 900) (h : KM B n M p) {k : Nat} (hk : k < 48) {v : Int} (hv : v = 2000000 + (k : Int)) : match sWd B n k p with
    | .error e => ∃ M', f_X13_needs T v M = some (0, M') ∧ mE M M' e
    | .ok p' => ∃ M', f_X13_needs T v M = some (0, M') ∧ KM B n M' p' ∧ kT M M' := by
  have hw := h.wrd (T := T) hk hv
  unfold sWd f_X13_needs
  cases hi : isw B n k p
  · rw [if_neg Bool.false_ne_true]
    rw [hi] at hw
    obtain ⟨M', e1, e2⟩ := m_flaw (T := T) h 1
    exact ⟨M', c_ite (by omega) (c_bind hw (c_pos rfl (c_bind e1 (c_bind (o_goesOn e2.1) rfl)))), e2⟩
  · rw [if_pos rfl]
    rw [hi] at hw
    obtain ⟨M', e1, e2, e3⟩ := h.on (T := T) hn (by rw [isw_4 hi]; decide)
    exact ⟨M', c_ite (by omega) (c_bind hw (c_neg (by decide) (c_bind e1 rfl))), e2, e3⟩
theorem m_part (hn : n ≤ 900) (h : KM B n M p) {k lo hi : Nat} (hk : k < 48) {v a b : Int} (hv : v = 2000000 + (k : Int)) (ha : a = (lo : Int)) (hb : b = (hi : Int)) : match sNu B n k lo hi p with
    | .error e => ∃ x M', f_X13_readPart T v a b M = some (x, M') ∧ mE M M' e
    | .ok x => ∃ M', f_X13_readPart T v a b M = some ((x.1 : Int), M') ∧ KM B n M' x.2 ∧ kT M M' := by
  subst ha hb
  have hw := m_needs (T := T) hn h hk hv
  have o38 : ∀ M2 : aM, M2 138 9 = 5 → b_X13_readPart_38 T (lo : Int) M2 = some ((lo : Int), M2) := fun M2 h5 => by
    unfold b_X13_readPart_38
    exact c_pos h5 (c_bind (o_goesOn h5) rfl)
  unfold sNu f_X13_readPart
  unfold sWd at hw
  cases hi2 : isw B n k p
  · rw [hi2, if_neg Bool.false_ne_true] at hw
    rw [if_neg Bool.false_ne_true]
    obtain ⟨M', e1, e2⟩ := hw
    exact ⟨_, M', c_ite (by omega) (c_bind e1 (c_neg (by show ¬ M' 138 9 = 3; rw [e2.1]; decide) (c_bind (o_flaw e2.1 1) (o38 M' e2.1)))), e2⟩
  · rw [hi2, if_pos rfl] at hw
    rw [if_pos rfl]
    obtain ⟨M1, e1, h1, k1⟩ := hw
    have hs : M1 138 9 = (mst (kS B n (kX B n p)) : Int) := h1.1.2.2.1
    by_cases h2 : kS B n (kX B n p) = 2
    · rw [if_pos h2]
      have h9 : M1 138 9 = 3 := by rw [hs, h2]; rfl
      have h11 : M1 138 11 = (kN B n (kX B n p) : Int) := h1.1.2.2.2.2.2 h2
      have hin : f_X13_in T (M1 138 11) (lo : Int) (hi : Int) M1 = some (bI (decide (lo ≤ kN B n (kX B n p) ∧ kN B n (kX B n p) ≤ hi))) := by
        unfold f_X13_in
        rw [h11]
        by_cases q1 : lo ≤ kN B n (kX B n p)
        · rw [if_neg (by omega)]
          by_cases q2 : kN B n (kX B n p) ≤ hi
          · rw [decide_eq_true ⟨q1, q2⟩]
            first | rw [if_neg (by omega)]; rfl | rw [if_pos (by omega)]; rfl
          · rw [decide_eq_false (fun e => q2 e.2)]
            first | rw [if_pos (by omega)]; rfl | rw [if_neg (by omega)]; rfl
        · rw [decide_eq_false (fun e => q1 e.1), if_pos (by omega)]; rfl
      by_cases h3 : lo ≤ kN B n (kX B n p) ∧ kN B n (kX B n p) ≤ hi
      · rw [if_pos h3]
        rw [decide_eq_true h3] at hin
        obtain ⟨M2, e2, h4, k2⟩ := h1.on (T := T) hn (by rw [h2]; decide)
        refine ⟨M2, c_ite (by omega) (c_bind e1 (c_pos h9 (c_bind hin (c_neg (by decide) ?_)))), h4, k1.trans k2⟩
        unfold b_X13_readPart_38
        show (if M1 138 9 = 5 then _ else _) = _
        refine c_neg (by rw [h9]; decide) (c_bind e2 ?_)
        show some (M1 138 11, M2) = _
        rw [h11]
      · rw [if_neg h3]
        rw [decide_eq_false h3] at hin
        obtain ⟨M2, e2, h4⟩ := m_flaw (T := T) h1 4
        exact ⟨_, M2, c_ite (by omega) (c_bind e1 (c_pos h9 (c_bind hin (c_pos rfl (c_bind e2 (o38 M2 h4.1)))))), h4.of k1.kF⟩
    · rw [if_neg h2]
      obtain ⟨M2, e2, h4⟩ := m_flaw (T := T) h1 1
      have h9 : ¬ M1 138 9 = 3 := by
        rw [hs]
        have := kS_lt B n (kX B n p)
        unfold mst
        split <;> omega
      exact ⟨_, M2, c_ite (by omega) (c_bind e1 (c_neg h9 (c_bind e2 (o38 M2 h4.1)))), h4.of k1.kF⟩
theorem pkd_line : ∀ j, j < 8 → pkd (24 + j) = pkd (12 + j) := by decide +kernel
theorem pkd_dif : ∀ i, i < 8 → ∀ j, j < 8 → pkd (12 + i) = pkd (12 + j) → i = j := by decide +kernel
theorem isw_line {j : Nat} (hj : j < 8) : isw B n (24 + j) p = decide (lid B n p = j) := by
  unfold isw
  rw [pkd_line j hj]
  by_cases hk : kS B n p = 1
  · rw [decide_eq_true hk, Bool.true_and]
    have hl : lid B n p = fst (fun j => decide (kW B n p = pkd (12 + j))) 8 := by unfold lid; rw [if_pos hk]
    rw [decide_eq_decide]
    constructor
    · intro e
      rw [hl]
      refine fst_eq hj (decide_eq_true e) fun i hi => decide_eq_false fun e2 => ?_
      have := pkd_dif i (by omega) j hj (by rw [← e2, ← e])
      omega
    · intro e
      have h1 : fst (fun j => decide (kW B n p = pkd (12 + j))) 8 < 8 := by rw [← hl, e]; exact hj
      have h2 := of_decide_eq_true (fst_yes _ _ h1)
      rw [← hl, e] at h2
      exact h2
  · rw [decide_eq_false hk, Bool.false_and]
    have hl : lid B n p = 8 := by unfold lid; rw [if_neg hk]
    rw [decide_eq_false (by omega)]
theorem lid_le : lid B n p ≤ 8 := by
  unfold lid
  split
  · exact fst_le _ _
  · exact Nat.le_refl _
theorem m_isName (h : KM B n M p) : f_X13_isName T M = some (bI (isn B n p)) := by
  have hle := lid_le (B := B) (n := n) (p := p)
  have hw : ∀ j : Nat, j < 8 → ∀ v : Int, v = 2000000 + ((24 + j : Nat) : Int) → f_X13_isWord T v M = some (bI (decide (lid B n p = j))) := fun j hj v hv => by
    rw [h.wrd (T := T) (k := 24 + j) (by omega) hv, isw_line hj]
  unfold f_X13_isName isn
  rw [h.1.2.2.1]
  by_cases hk : kS B n p = 1
  · rw [hk, decide_eq_true rfl, Bool.true_and]
    refine c_pos rfl ?_
    have w0 := hw 0 (by decide) 2000024 rfl; have w1 := hw 1 (by decide) 2000025 rfl; have w2 := hw 2 (by decide) 2000026 rfl; have w3 := hw 3 (by decide) 2000027 rfl
    have w4 := hw 4 (by decide) 2000028 rfl; have w5 := hw 5 (by decide) 2000029 rfl; have w6 := hw 6 (by decide) 2000030 rfl; have w7 := hw 7 (by decide) 2000031 rfl
    by_cases q0 : lid B n p = 0
    · rw [decide_eq_true q0] at w0
      rw [decide_eq_false (by omega)]
      exact c_bind w0 (c_neg (by decide) rfl)
    · rw [decide_eq_false q0] at w0
      refine c_bind w0 (c_pos rfl ?_)
      by_cases q1 : lid B n p = 1
      · rw [decide_eq_true q1] at w1
        rw [decide_eq_false (by omega)]
        exact c_bind w1 (c_neg (by decide) rfl)
      · rw [decide_eq_false q1] at w1
        refine c_bind w1 (c_pos rfl ?_)
        by_cases q2 : lid B n p = 2
        · rw [decide_eq_true q2] at w2
          rw [decide_eq_false (by omega)]
          exact c_bind w2 (c_neg (by decide) rfl)
        · rw [decide_eq_false q2] at w2
          refine c_bind w2 (c_pos rfl ?_)
          by_cases q3 : lid B n p = 3
          · rw [decide_eq_true q3] at w3
            rw [decide_eq_false (by omega)]
            exact c_bind w3 (c_neg (by decide) rfl)
          · rw [decide_eq_false q3] at w3
            refine c_bind w3 (c_pos rfl ?_)
            by_cases q4 : lid B n p = 4
            · rw [decide_eq_true q4] at w4
              rw [decide_eq_false (by omega)]
              exact c_bind w4 (c_neg (by decide) rfl)
            · rw [decide_eq_false q4] at w4
              refine c_bind w4 (c_pos rfl ?_)
              by_cases q5 : lid B n p = 5
              · rw [decide_eq_true q5] at w5
                rw [decide_eq_false (by omega)]
                exact c_bind w5 (c_neg (by decide) rfl)
              · rw [decide_eq_false q5] at w5
                refine c_bind w5 (c_pos rfl ?_)
                by_cases q6 : lid B n p = 6
                · rw [decide_eq_true q6] at w6
                  rw [decide_eq_false (by omega)]
                  exact c_bind w6 (c_neg (by decide) rfl)
                · rw [decide_eq_false q6] at w6
                  refine c_bind w6 (c_pos rfl ?_)
                  by_cases q7 : lid B n p = 7
                  · rw [decide_eq_true q7] at w7
                    rw [decide_eq_false (by omega)]
                    exact c_bind w7 (c_neg (by decide) rfl)
                  · rw [decide_eq_false q7] at w7
                    rw [decide_eq_true (by omega)]
                    exact c_bind w7 (c_pos rfl rfl)
  · rw [decide_eq_false hk, Bool.false_and]
    refine c_neg ?_ rfl
    unfold mst
    split <;> omega
theorem isn_1 (h : isn B n p = true) : kS B n p = 1 := by
  unfold isn at h
  rw [Bool.and_eq_true, decide_eq_true_eq] at h
  exact h.1
theorem m_hand (h : KM B n M p) (h4 : M 138 4 = (w : Int)) (hw : okW T (w : Int)) (hr : MRd M w A) (h15 : A 0 8 ≤ 15) : match sCv B n A p with
    | .error e => ∃ M', f_X13_caveAtHand T M = some (0, M') ∧ mE M M' e
    | .ok c => f_X13_caveAtHand T M = some ((c : Int), M) := by
  have hw154 : 154 ≤ w := by have := hw.1; omega
  have hi := m_isName (T := T) h
  unfold sCv f_X13_caveAtHand
  cases hn : isn B n p
  · rw [if_neg Bool.false_ne_true]
    rw [hn] at hi
    obtain ⟨M', e1, e2⟩ := m_flaw (T := T) h 1
    exact ⟨M', c_bind hi (c_pos rfl (c_bind e1 (o_cave12 e2.1 ((e2.2.2.2.1 4 (by decide)).trans h4) hw (hr.cong hw154 e2.2.2.2.2) h15))), e2⟩
  · rw [if_pos rfl]
    rw [hn] at hi
    have hk := isn_1 hn
    have h14 : M 138 14 = (kW B n p : Int) := h.1.2.2.2.2.1 hk
    have hf := g_findn (T := T) hr h15 (kW B n p)
    have h9 : ¬ M 138 9 = 5 := by rw [h.1.2.2.1, hk]; decide
    have err : (∃ M', b_X13_caveAtHand_41 T (if fnn A (kW B n p) < A 0 8 then (fnn A (kW B n p) : Int) else -1) M = some (0, M') ∧ mE M M' (2, p)) := by
      obtain ⟨M', e1, e2⟩ := m_flaw (T := T) h 2
      refine ⟨M', ?_, e2⟩
      unfold b_X13_caveAtHand_41
      exact c_bind e1 (o_cave46 e2.1)
    have pre : ∀ y, (if (if fnn A (kW B n p) < A 0 8 then (fnn A (kW B n p) : Int) else -1) = (-1) then b_X13_caveAtHand_41 T (if fnn A (kW B n p) < A 0 8 then (fnn A (kW B n p) : Int) else -1) M else if 0 ≤ (if fnn A (kW B n p) < A 0 8 then (fnn A (kW B n p) : Int) else -1) ∧ (if fnn A (kW B n p) < A 0 8 then (fnn A (kW B n p) : Int) else -1) < 15 then if M (w + 13) (if fnn A (kW B n p) < A 0 8 then (fnn A (kW B n p) : Int) else -1).toNat = 0 then b_X13_caveAtHand_46 T (if fnn A (kW B n p) < A 0 8 then (fnn A (kW B n p) : Int) else -1) M else b_X13_caveAtHand_41 T (if fnn A (kW B n p) < A 0 8 then (fnn A (kW B n p) : Int) else -1) M else none) = y → ((f_X13_isName T M).bind fun x1 => if x1 = 0 then (f_X13_flaw T 1 M).bind (fun x17 => b_X13_caveAtHand_12 T x17.2) else b_X13_caveAtHand_12 T M) = y := by
      intro y hy
      refine c_bind hi (c_neg (by decide) ?_)
      unfold b_X13_caveAtHand_12
      rw [h4, Int.toNat_natCast, h14]
      exact c_ite hw (c_bind hf hy)
    by_cases hff : fnn A (kW B n p) < A 0 8
    · have hm14 : M (w + 13) (fnn A (kW B n p)) = (mvl 14 (A 14 (fnn A (kW B n p))) : Int) := hr.2.2.2 14 (by decide) (by decide) _ hff
      have hm15 : M (w + 14) (fnn A (kW B n p)) = (A 15 (fnn A (kW B n p)) : Int) := hr.2.2.2 15 (by decide) (by decide) _ hff
      rw [if_pos hff] at err pre
      by_cases h1 : A 14 (fnn A (kW B n p)) = 1
      · rw [if_pos ⟨hff, h1⟩]
        refine pre _ (c_neg (by omega) (c_ite (by omega) (c_pos ?_ ?_)))
        · rw [Int.toNat_natCast, hm14, h1]; rfl
        · unfold b_X13_caveAtHand_46
          rw [h4, Int.toNat_natCast, Int.toNat_natCast, hm15]
          exact c_neg h9 (c_ite hw (c_ite (by omega) rfl))
      · rw [if_neg (fun e => h1 e.2)]
        obtain ⟨M', e1, e2⟩ := err
        refine ⟨M', pre _ (c_neg (by omega) (c_ite (by omega) (c_neg ?_ e1))), e2⟩
        rw [Int.toNat_natCast, hm14]
        unfold mvl
        rw [if_pos rfl, if_neg h1]
        split <;> decide
    · rw [if_neg (fun e => hff e.1)]
      rw [if_neg hff] at err pre
      obtain ⟨M', e1, e2⟩ := err
      exact ⟨M', pre _ (c_pos rfl e1), e2⟩
theorem m_readCave (hn : n ≤ 900) (h : KM B n M p) (h4 : M 138 4 = (w : Int)) (hw : okW T (w : Int)) (hr : MRd M w A) (h15 : A 0 8 ≤ 15) : match sCv B n A p with
    | .error e => ∃ M', f_X13_readCave T M = some (0, M') ∧ mE M M' e
    | .ok c => ∃ M', f_X13_readCave T M = some ((c : Int), M') ∧ KM B n M' (kX B n p) ∧ kT M M' := by
  have h1 := m_hand h h4 hw hr h15
  unfold f_X13_readCave
  cases hs : sCv B n A p with
  | error e =>
    rw [hs] at h1
    obtain ⟨M', e1, e2⟩ := h1
    exact ⟨M', c_bind e1 (c_bind (o_goesOn e2.1) rfl), e2⟩
  | ok c =>
    rw [hs] at h1
    have hk : kS B n p = 1 := by
      unfold sCv at hs
      split at hs
      · rename_i hi; exact isn_1 hi
      · cases hs
    obtain ⟨M', e1, e2, e3⟩ := h.on (T := T) hn (by rw [hk]; decide)
    exact ⟨M', c_bind h1 (c_bind e1 rfl), e2, e3⟩
theorem KM.up15 (h : KM B n M p) {v : Int} : KM B n (aup M 138 15 v) p := by
  obtain ⟨⟨a, b, c, d, e, f⟩, g, i⟩ := h
  refine ⟨⟨?_, ?_, ?_, fun q => ?_, fun q => ?_, fun q => ?_⟩, g, fun k hk => ?_⟩
  · rw [aup_ne2 (by decide)]; exact a
  · rw [aup_ne2 (by decide)]; exact b
  · rw [aup_ne2 (by decide)]; exact c
  · rw [aup_ne2 (by decide)]; exact d q
  · rw [aup_ne2 (by decide)]; exact e q
  · rw [aup_ne2 (by decide)]; exact f q
  · rw [aup_nc (by decide)]; exact i k hk
theorem kG_15 {v : Int} : kG M (aup M 138 15 v) := ⟨fun k hk => aup_ne2 (by omega), fun m hm => aup_nc hm⟩
theorem mE.up15 {e : rE} {M' : aM} {v : Int} (h : mE M M' e) : mE M (aup M' 138 15 v) e := ⟨by rw [aup_ne2 (by decide)]; exact h.1, by rw [aup_ne2 (by decide)]; exact h.2.1, by rw [aup_ne2 (by decide)]; exact h.2.2.1, h.2.2.2.trans kG_15.kF⟩
/-- two caves unlike -/
def sTw (B : Nat → Int) (n : Nat) (A : aA) (p : Nat) : Except rE (Nat × Nat) := (sCv B n A p).bind fun a => (sCv B n A (kX B n p)).bind fun b => if b = a then .error (3, kX B n p) else .ok (a, b)
theorem m_two (hn : n ≤ 900) (h : KM B n M p) (h4 : M 138 4 = (w : Int)) (hw : okW T (w : Int)) (hr : MRd M w A) (h15 : A 0 8 ≤ 15) : match sTw B n A p with
    | .error e => ∃ x M', f_X13_readTwo T M = some (x, M') ∧ mE M M' e ∧ (∃ z : Nat, M' 138 15 = (z : Int)) ∧ ∃ y : Nat, x = (y : Int)
    | .ok x => ∃ M', f_X13_readTwo T M = some ((x.1 : Int), M') ∧ KM B n M' (kX B n p) ∧ M' 138 15 = (x.2 : Int) ∧ kG M M' := by
  have hw154 : 154 ≤ w := by have := hw.1; omega
  have s1 := m_readCave (T := T) hn h h4 hw hr h15
  unfold sTw f_X13_readTwo
  cases e1 : sCv B n A p with
  | error e =>
    rw [e1] at s1
    obtain ⟨M', q1, q2⟩ := s1
    refine ⟨_, aup M' 138 15 0, c_bind q1 (c_bind (o_cave q2.1 ((q2.2.2.2.1 4 (by decide)).trans h4) hw (hr.cong hw154 q2.2.2.2.2) h15) (c_some (c_pos (by rw [aup_ne2 (by decide)]; exact q2.1) rfl))), q2.up15, ⟨0, aup_at⟩, 0, rfl⟩
  | ok a =>
    rw [e1] at s1
    obtain ⟨M1, q1, q2, q3⟩ := s1
    have h41 : M1 138 4 = (w : Int) := (q3.1 4 (by decide)).trans h4
    have hr1 := hr.cong hw154 q3.2
    have s2 := m_hand q2 h41 hw hr1 h15
    show match ((sCv B n A (kX B n p)).bind fun b => if b = a then Except.error (3, kX B n p) else Except.ok (a, b) : Except rE (Nat × Nat)) with
      | .error e => _
      | .ok x => _
    cases e2 : sCv B n A (kX B n p) with
    | error e =>
      rw [e2] at s2
      obtain ⟨M', r1, r2⟩ := s2
      exact ⟨_, aup M' 138 15 0, c_bind q1 (c_bind r1 (c_some (c_pos (by rw [aup_ne2 (by decide)]; exact r2.1) rfl))), (r2.of q3.kF).up15, ⟨0, aup_at⟩, a, rfl⟩
    | ok b =>
      rw [e2] at s2
      have hk2 : kS B n (kX B n p) = 1 := by
        unfold sCv at e2
        split at e2
        · rename_i hi; exact isn_1 hi
        · cases e2
      have h9 : ¬ aup M1 138 15 (b : Int) 138 9 = 5 := by rw [aup_ne2 (by decide), q2.1.2.2.1, hk2]; decide
      have h15a : aup M1 138 15 (b : Int) 138 15 = (b : Int) := aup_at
      show match (if b = a then Except.error (3, kX B n p) else Except.ok (a, b) : Except rE (Nat × Nat)) with
        | .error e => _
        | .ok x => _
      by_cases hba : b = a
      · rw [if_pos hba]
        have hfl : f_X13_flaw T 3 (aup M1 138 15 (b : Int)) = some (0, aup (aup (aup (aup M1 138 15 (b : Int)) 138 12 3) 138 13 ((kX B n p : Nat) : Int)) 138 9 5) := by
          unfold f_X13_flaw
          refine c_neg h9 (c_some (c_some ?_))
          rw [aup_ne2 (show (10 : Nat) ≠ 12 by decide), aup_ne2 (show (10 : Nat) ≠ 15 by decide), q2.1.2.1]
          rfl
        refine ⟨_, aup (aup (aup (aup M1 138 15 (b : Int)) 138 12 3) 138 13 ((kX B n p : Nat) : Int)) 138 9 5, c_bind q1 (c_bind s2 (c_some (c_neg h9 (c_pos (by show (a : Int) = _; rw [h15a]; omega) (c_bind hfl rfl))))), ⟨aup_at, ?_, ?_, ?_⟩, ⟨b, ?_⟩, a, rfl⟩
        · rw [aup_ne2 (by decide), aup_ne2 (by decide)]; exact aup_at
        · rw [aup_ne2 (by decide)]; exact aup_at
        · exact (q3.kF.trans kG_15.kF).trans ⟨fun k hk => by rw [aup_ne2 (by omega), aup_ne2 (by omega), aup_ne2 (by omega)], fun m hm => by rw [aup_nc hm, aup_nc hm, aup_nc hm]⟩
        · rw [aup_ne2 (by decide), aup_ne2 (by decide), aup_ne2 (by decide)]; exact aup_at
      · rw [if_neg hba]
        exact ⟨aup M1 138 15 (b : Int), c_bind q1 (c_bind s2 (c_some (c_neg h9 (c_neg (by show ¬ (a : Int) = _; rw [h15a]; omega) rfl)))), q2.up15, h15a, q3.kG.trans kG_15⟩
end Mrd
