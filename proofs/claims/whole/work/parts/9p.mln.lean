/-! ===== the model reads: ways, voices, folk, echoes, unsure ways, talk ===== -/
section Mlm
variable {B : Nat → Int} {n p : Nat} {T w : Nat} {M M1 : aM} {A : aA}
theorem g_wwd (hr : MRd M w A) (hA : WFd A) {a b : Nat} : f_X12_way T w (a : Int) (b : Int) M = some (if wy A a b < A 0 2 then (wy A a b : Int) else -1) := by
  have h10 := hA.1.2.2.1
  have h5 : M w 5 = (A 0 2 : Int) := hr.2.1 2 (by decide) (by decide)
  have r2 : ∀ k, k < A 0 2 → M (w + 1) k = (A 2 k : Int) := fun k hk => hr.2.2.2 2 (by decide) (by decide) k hk
  have r3 : ∀ k, k < A 0 2 → M (w + 2) k = (A 3 k : Int) := fun k hk => hr.2.2.2 3 (by decide) (by decide) k hk
  unfold f_X12_way
  have := find_loop (fun n i => l_X12_way_2 T w (a : Int) (b : Int) M (fun w13 => some (-1)) n i) (A 0 2) (wyp A a b) (fun i => some (i : Int)) (y := some (-1)) (by omega) ?_ ?_ ?_
  · have e : l_X12_way_2 T w (a : Int) (b : Int) M (fun w13 => some (-1)) FU 0 = if wy A a b < A 0 2 then some ((wy A a b : Nat) : Int) else some (-1) := this
    rw [e]
    split <;> rfl
  · intro k n hk hp
    show l_X12_way_2 T w (a : Int) (b : Int) M _ (n + 1) (k : Int) = _
    rw [l_X12_way_2, Int.toNat_natCast, r2 k hk, r3 k hk]
    refine c_neg (by rw [h5]; omega) (c_ite (by omega) ?_)
    have hj : ¬ jn (A 2) (A 3) k a b := fun h => by rw [wyp_jn.mpr h] at hp; cases hp
    unfold jn at hj
    by_cases e1 : A 2 k = a
    · refine c_pos (by omega) ?_
      refine c_neg (by omega) ?_
      by_cases e2 : A 2 k = b
      · refine c_pos (by omega) (c_neg (by omega) (c_ite (by omega) rfl))
      · exact c_neg (by omega) (c_ite (by omega) rfl)
    · refine c_neg (by omega) ?_
      by_cases e2 : A 2 k = b
      · refine c_pos (by omega) (c_neg (by omega) (c_ite (by omega) rfl))
      · exact c_neg (by omega) (c_ite (by omega) rfl)
  · intro k n hk hp
    show l_X12_way_2 T w (a : Int) (b : Int) M _ (n + 1) (k : Int) = _
    rw [l_X12_way_2, Int.toNat_natCast, r2 k hk, r3 k hk]
    refine c_neg (by rw [h5]; omega) (c_ite (by omega) ?_)
    have hj := wyp_jn.mp hp
    have hw := hA.2.2.1 k hk
    rcases hj with ⟨e1, e2⟩ | ⟨e1, e2⟩
    · exact c_pos (by omega) (c_pos (by omega) rfl)
    · refine c_neg (by omega) (c_pos (by omega) (c_pos (by omega) rfl))
  · intro n
    show l_X12_way_2 T w (a : Int) (b : Int) M _ (n + 1) ((A 0 2 : Nat) : Int) = _
    rw [l_X12_way_2]
    exact c_pos (by rw [h5]; exact Int.le_refl _) rfl
theorem g_isEchod (hr : MRd M w A) (hA : WFd A) {c : Nat} : f_X12_isEcho T w (c : Int) M = some (bI (exb (fun i => decide (A 8 i = c)) (A 0 5))) := by
  have h4 := hA.1.2.2.2.2.2.1
  have e18 : M w 9 = (A 0 5 : Int) := hr.2.1 5 (by decide) (by decide)
  have e26 : ∀ i, i < A 0 5 → M (w + 7) i = (A 8 i : Int) := fun i hi => hr.2.2.2 8 (by decide) (by decide) i hi
  unfold f_X12_isEcho
  rw [exb_fst]
  have key := find_loop (fun m i => l_X12_isEcho_2 T w (c : Int) M (fun w5 => some 0) m i) (A 0 5) (fun i => decide (A 8 i = c)) (fun _ => some 1) (y := some 0) (by omega) (fun i m hi hp => ?_) (fun i m hi hp => ?_) (fun m => ?_)
  · refine Eq.trans key ?_
    split
    · rename_i hq; rw [decide_eq_true hq]; rfl
    · rename_i hq; rw [decide_eq_false hq]; rfl
  · show l_X12_isEcho_2 T w (c : Int) M _ (m + 1) (i : Int) = _
    rw [l_X12_isEcho_2, e18, Int.toNat_natCast, e26 i hi]
    exact c_neg (by omega) (c_ite (by omega) (c_neg (fun e => (of_decide_eq_false hp) (by omega)) (c_ite (by omega) rfl)))
  · show l_X12_isEcho_2 T w (c : Int) M _ (m + 1) (i : Int) = _
    rw [l_X12_isEcho_2, e18, Int.toNat_natCast, e26 i hi]
    exact c_neg (by omega) (c_ite (by omega) (c_pos (by have := of_decide_eq_true hp; omega) rfl))
  · show l_X12_isEcho_2 T w (c : Int) M _ (m + 1) ((A 0 5 : Nat) : Int) = _
    rw [l_X12_isEcho_2, e18]
    exact c_pos (Int.le_refl _) rfl
theorem g_isUnd (hr : MRd M w A) (hA : WFd A) {c : Nat} : f_X12_isUnsure T w (c : Int) M = some (bI (exb (fun i => decide (A 10 i = c)) (A 0 6))) := by
  have h4 := hA.1.2.2.2.2.2.2.1
  have e18 : M w 10 = (A 0 6 : Int) := hr.2.1 6 (by decide) (by decide)
  have e26 : ∀ i, i < A 0 6 → M (w + 9) i = (A 10 i : Int) := fun i hi => hr.2.2.2 10 (by decide) (by decide) i hi
  unfold f_X12_isUnsure
  rw [exb_fst]
  have key := find_loop (fun m i => l_X12_isUnsure_2 T w (c : Int) M (fun w5 => some 0) m i) (A 0 6) (fun i => decide (A 10 i = c)) (fun _ => some 1) (y := some 0) (by omega) (fun i m hi hp => ?_) (fun i m hi hp => ?_) (fun m => ?_)
  · refine Eq.trans key ?_
    split
    · rename_i hq; rw [decide_eq_true hq]; rfl
    · rename_i hq; rw [decide_eq_false hq]; rfl
  · show l_X12_isUnsure_2 T w (c : Int) M _ (m + 1) (i : Int) = _
    rw [l_X12_isUnsure_2, e18, Int.toNat_natCast, e26 i hi]
    exact c_neg (by omega) (c_ite (by omega) (c_neg (fun e => (of_decide_eq_false hp) (by omega)) (c_ite (by omega) rfl)))
  · show l_X12_isUnsure_2 T w (c : Int) M _ (m + 1) (i : Int) = _
    rw [l_X12_isUnsure_2, e18, Int.toNat_natCast, e26 i hi]
    exact c_neg (by omega) (c_ite (by omega) (c_pos (by have := of_decide_eq_true hp; omega) rfl))
  · show l_X12_isUnsure_2 T w (c : Int) M _ (m + 1) ((A 0 6 : Nat) : Int) = _
    rw [l_X12_isUnsure_2, e18]
    exact c_pos (Int.le_refl _) rfl
/-! ways -/
def rY3 (T : Nat) (v3 v4 : Int) (M : aM) : Option (Int × aM) := if okW T (M 138 4) then
 if 0 ≤ (M (M 138 4).toNat 5) ∧ (M (M 138 4).toNat 5) < 10 then
 (some (aup M ((M 138 4).toNat + 3) ((M (M 138 4).toNat 5)).toNat v3)).bind fun m40 =>
 if okW T (m40 138 4) then
 if v4 = 0 then
 (some (aup m40 (m40 138 4).toNat 6 (aor (m40 (m40 138 4).toNat 6) 0))).bind fun m44 =>
 if okW T (m44 138 4) then
 if aIn ((m44 (m44 138 4).toNat 5) + 1) then
 (some (aup m44 (m44 138 4).toNat 5 ((m44 (m44 138 4).toNat 5) + 1))).bind fun m48 =>
 some (0, m48) else none else none else
 (some (aup m40 (m40 138 4).toNat 6 (aor (m40 (m40 138 4).toNat 6) (ashl 1 (m40 (m40 138 4).toNat 5))))).bind fun m50 =>
 if okW T (m50 138 4) then
 if aIn ((m50 (m50 138 4).toNat 5) + 1) then
 (some (aup m50 (m50 138 4).toNat 5 ((m50 (m50 138 4).toNat 5) + 1))).bind fun m54 =>
 some (0, m54) else none else none else none else none else none
def rY2 (T : Nat) (v1 v2 v3 v4 : Int) (M : aM) : Option (Int × aM) := if okW T (M 138 4) then
 if v2 ≤ v1 then
 if 0 ≤ (M (M 138 4).toNat 5) ∧ (M (M 138 4).toNat 5) < 10 then
 (some (aup M ((M 138 4).toNat + 2) ((M (M 138 4).toNat 5)).toNat v1)).bind fun m36 => rY3 T v3 v4 m36 else none else
 if 0 ≤ (M (M 138 4).toNat 5) ∧ (M (M 138 4).toNat 5) < 10 then
 (some (aup M ((M 138 4).toNat + 2) ((M (M 138 4).toNat 5)).toNat v2)).bind fun m57 => rY3 T v3 v4 m57 else none else none
def rY1 (T : Nat) (v1 v2 v3 v4 : Int) (M : aM) : Option (Int × aM) := if okW T (M 138 4) then
 if v2 ≤ v1 then
 if 0 ≤ (M (M 138 4).toNat 5) ∧ (M (M 138 4).toNat 5) < 10 then
 (some (aup M ((M 138 4).toNat + 1) ((M (M 138 4).toNat 5)).toNat v2)).bind fun m31 => rY2 T v1 v2 v3 v4 m31 else none else
 if 0 ≤ (M (M 138 4).toNat 5) ∧ (M (M 138 4).toNat 5) < 10 then
 (some (aup M ((M 138 4).toNat + 1) ((M (M 138 4).toNat 5)).toNat v1)).bind fun m78 => rY2 T v1 v2 v3 v4 m78 else none else none
theorem o_way118 (h5 : M 138 9 = 5) {a b c d : Int} : b_X13_readWay_118 T a b c d M = some (0, M) := by
  unfold b_X13_readWay_118
  exact c_bind (o_goesOn h5) (c_pos h5 rfl)
theorem o_way93 (h5 : M 138 9 = 5) {a b c : Int} : b_X13_readWay_93 T a b c 0 M = some (0, M) := by
  unfold b_X13_readWay_93
  exact c_pos rfl (o_way118 h5)
theorem o_way49 (h5 : M 138 9 = 5) {a b : Int} : b_X13_readWay_49 T a b M = some (0, M) := by
  unfold b_X13_readWay_49
  exact c_bind (o_goesOn h5) (c_bind (o_readPart h5 (by decide)) (c_bind (o_isWord h5 (by decide)) (c_pos rfl (c_bind (o_isWord h5 (by decide)) (c_pos rfl (c_bind (o_flaw h5 1) (o_way93 h5)))))))
theorem m_way118 (hn : n ≤ 900) (hA : WFd A) (h : KM B n M p) (h4 : M 138 4 = (w : Int)) (hw : okW T (w : Int)) (hr : MRd M w A) (hk : kS B n p = 1) (h0 : A 0 0 = 1) (h10 : A 0 2 < 10) {a b l : Nat} (hab : b ≠ a) (wet : Bool) : ∃ M', b_X13_readWay_118 T (a : Int) (b : Int) (l : Int) (bI wet) M = some (0, M') ∧ KM B n M' (kX B n p) ∧ MRd M' w (L2 A a b l (if wet = true then A 1 4 ||| 2 ^ A 0 2 else A 1 4)) ∧ kL w M M' := by
  have hge := okw_ge hw
  have hlt : A 1 4 < 2147483648 := pw31 hA.2.1.2.2.2.2.1 (by omega)
  obtain ⟨M1, q1, q2, q3⟩ := h.on (T := T) hn (by rw [hk]; decide)
  have w4 : M1 138 4 = (w : Int) := (q3.1 4 (by decide)).trans h4
  have hr1 := hr.cong hge q3.2
  have c5 : M1 w 5 = (A 0 2 : Int) := hr1.2.1 2 (by decide) (by decide)
  have c6 : M1 w 6 = (A 1 4 : Int) := hr1.2.2.1.2.1
  have t3 : ∀ M2 : aM, M2 138 4 = (w : Int) → M2 w 5 = (A 0 2 : Int) → M2 w 6 = (A 1 4 : Int) → rY3 T (l : Int) (bI wet) M2 = some (0, aup (aup (aup M2 (w + 3) (A 0 2) (l : Int)) w 6 ((if wet = true then A 1 4 ||| 2 ^ A 0 2 else A 1 4 : Nat) : Int)) w 5 ((A 0 2 : Int) + 1)) := by
    intro M2 e4 e5 e6
    unfold rY3
    rw [e4, Int.toNat_natCast, e5, Int.toNat_natCast]
    have f4 : aup M2 (w + 3) (A 0 2) (l : Int) 138 4 = (w : Int) := by rw [aup_nc (by omega)]; exact e4
    have f5 : aup M2 (w + 3) (A 0 2) (l : Int) w 5 = (A 0 2 : Int) := by rw [aup_nc (by omega)]; exact e5
    have f6 : aup M2 (w + 3) (A 0 2) (l : Int) w 6 = (A 1 4 : Int) := by rw [aup_nc (by omega)]; exact e6
    refine c_ite hw (c_ite (by omega) (c_some ?_))
    rw [f4, Int.toNat_natCast, f6, f5]
    have k4 : ∀ m : Int, aup (aup M2 (w + 3) (A 0 2) (l : Int)) w 6 m 138 4 = (w : Int) := fun m => by rw [aup_nc (by omega)]; exact f4
    have k5 : ∀ m : Int, aup (aup M2 (w + 3) (A 0 2) (l : Int)) w 6 m w 5 = (A 0 2 : Int) := fun m => by rw [aup_ne2 (by decide)]; exact f5
    refine c_ite hw ?_
    cases wet
    · rw [if_neg Bool.false_ne_true]
      refine c_pos rfl (c_some ?_)
      rw [aor_0 hlt, k4, Int.toNat_natCast, k5]
      exact c_ite hw (c_ite (by omega) (c_some rfl))
    · rw [if_pos rfl]
      refine c_neg (by decide) (c_some ?_)
      rw [ashl_one _ (by omega), aor_nat hlt (Nat.pow_lt_pow_right (a := 2) (n := 31) (by decide) (by omega)), k4, Int.toNat_natCast, k5]
      exact c_ite hw (c_ite (by omega) (c_some rfl))
  have code : b_X13_readWay_118 T (a : Int) (b : Int) (l : Int) (bI wet) M = rY1 T (a : Int) (b : Int) (l : Int) (bI wet) M1 := by
    unfold b_X13_readWay_118
    exact c_bind q1 (c_neg q2.n5 rfl)
  have up1 : ∀ v : Int, aup M1 (w + 1) (A 0 2) v 138 4 = (w : Int) ∧ aup M1 (w + 1) (A 0 2) v w 5 = (A 0 2 : Int) ∧ aup M1 (w + 1) (A 0 2) v w 6 = (A 1 4 : Int) := fun v => by
    rw [aup_nc (show (138 : Nat) ≠ w + 1 by omega), aup_nc (show w ≠ w + 1 by omega)]
    exact ⟨w4, c5, c6⟩
  have up2' : ∀ v u : Int, aup (aup M1 (w + 1) (A 0 2) v) (w + 2) (A 0 2) u 138 4 = (w : Int) ∧ aup (aup M1 (w + 1) (A 0 2) v) (w + 2) (A 0 2) u w 5 = (A 0 2 : Int) ∧ aup (aup M1 (w + 1) (A 0 2) v) (w + 2) (A 0 2) u w 6 = (A 1 4 : Int) := fun v u => by
    rw [aup_nc (show (138 : Nat) ≠ w + 2 by omega), aup_nc (show w ≠ w + 2 by omega)]
    exact up1 v
  refine ⟨G2w M1 w A a b l (if wet = true then A 1 4 ||| 2 ^ A 0 2 else A 1 4), ?_, ((((q2.up (by omega)).up (by omega)).up (by omega)).up hge).up hge, md2 hr1 h0, q3.kG.kL.trans (((((kL_up hge (by omega)).trans (kL_up hge (by omega))).trans (kL_up hge (by omega))).trans (kL_up hge (by omega))).trans (kL_up hge (by omega)))⟩
  rw [code]
  unfold rY1
  rw [w4, Int.toNat_natCast, c5, Int.toNat_natCast]
  refine c_ite hw ?_
  unfold G2w
  by_cases hba : b < a
  · rw [if_pos hba, if_pos hba]
    refine c_pos (by omega) (c_ite (by omega) (c_some ?_))
    unfold rY2
    rw [(up1 _).1, Int.toNat_natCast, (up1 _).2.1, Int.toNat_natCast]
    refine c_ite hw (c_pos (by omega) (c_ite (by omega) (c_some ?_)))
    exact t3 _ (up2' _ _).1 (up2' _ _).2.1 (up2' _ _).2.2
  · rw [if_neg hba, if_neg hba]
    refine c_neg (by omega) (c_ite (by omega) (c_some ?_))
    unfold rY2
    rw [(up1 _).1, Int.toNat_natCast, (up1 _).2.1, Int.toNat_natCast]
    refine c_ite hw (c_neg (by omega) (c_ite (by omega) (c_some ?_)))
    exact t3 _ (up2' _ _).1 (up2' _ _).2.1 (up2' _ _).2.2
/-- what is behind two caves, of a way -/
def sY (B : Nat → Int) (n : Nat) (A : aA) (a b p : Nat) : Except rE (aA × Nat) := if wy A a b < A 0 2 then .error (3, p) else (sNu B n 5 1 20 (kX B n p)).bind fun x => if isw B n 6 x.2 = true then (if cntp (A 1 4).testBit 16 < 6 then .ok (L2 A a b x.1 (A 1 4 ||| 2 ^ A 0 2), kX B n x.2) else .error (5, x.2)) else if isw B n 7 x.2 = true then .ok (L2 A a b x.1 (A 1 4), kX B n x.2) else .error (1, x.2)
theorem sl2_tw : sl2 B n A p = (sTw B n A p).bind fun x => sY B n A x.1 x.2 (kX B n p) := by
  unfold sl2 sTw
  cases sCv B n A p with
  | error e => rfl
  | ok a =>
    show (sCv B n A (kX B n p)).bind _ = ((sCv B n A (kX B n p)).bind _ : Except rE (Nat × Nat)).bind _
    cases sCv B n A (kX B n p) with
    | error e => rfl
    | ok b =>
      show (if b = a ∨ wy A a b < A 0 2 then _ else _) = ((if b = a then Except.error (3, kX B n p) else Except.ok (a, b) : Except rE (Nat × Nat))).bind _
      by_cases hba : b = a
      · rw [if_pos (Or.inl hba), if_pos hba]; rfl
      · rw [if_neg hba]
        show _ = sY B n A a b (kX B n p)
        unfold sY
        by_cases hw : wy A a b < A 0 2
        · rw [if_pos (Or.inr hw), if_pos hw]
        · rw [if_neg (not_or.mpr ⟨hba, hw⟩), if_neg hw]
theorem sTw_ok {x : Nat × Nat} (hA : WFd A) (h : sTw B n A p = .ok x) : x.1 < A 0 1 ∧ x.2 < A 0 1 ∧ x.2 ≠ x.1 ∧ kS B n (kX B n p) = 1 := by
  unfold sTw at h
  obtain ⟨a, ea, h⟩ := ex_bind h
  obtain ⟨b, eb, h⟩ := ex_bind h
  split at h
  · cases h
  · rename_i hne
    cases h
    refine ⟨sCv_ok hA ea, sCv_ok hA eb, hne, ?_⟩
    unfold sCv at eb
    split at eb
    · rename_i hi; exact isn_1 hi
    · cases eb
theorem sBg_ok {c r p1 : Nat} (h01 : A 0 0 ≤ 1) (h : sBg B n A c r p = .ok p1) : c < r ∧ A 0 0 = 1 ∧ p1 = kX B n p := by
  unfold sBg at h
  split at h
  · cases h
  · split at h
    · cases h
    · cases h; exact ⟨by omega, by omega, rfl⟩
theorem ml2 (hn : n ≤ 900) (hA : WFd A) (h : KM B n M p) (h4 : M 138 4 = (w : Int)) (hw : okW T (w : Int)) (hr : MRd M w A) (hk : kS B n p = 1) : mLn B n w (f_X13_readWay T M) M ((sBg B n A (A 0 2) 10 p).bind fun p1 => sl2 B n A p1) := by
  have hge := okw_ge hw
  have h15 := names_le hA
  have c5 : M w 5 = (A 0 2 : Int) := hr.2.1 2 (by decide) (by decide)
  unfold f_X13_readWay
  rw [h4, Int.toNat_natCast, c5]
  have s1 := m_begins (T := T) hn h h4 hw hr hA.1.1 hk (c := A 0 2) (r := 10) hA.1.2.2.1 rfl rfl
  cases e1 : sBg B n A (A 0 2) 10 p with
  | error e =>
    rw [e1] at s1
    obtain ⟨M', q1, q2⟩ := s1
    have o9 : aup M' 138 15 0 138 9 = 5 := by rw [aup_ne2 (by decide)]; exact q2.1
    exact ⟨aup M' 138 15 0, c_ite hw (c_bind q1 (c_bind (o_two q2.1 ((q2.2.2.2.1 4 (by decide)).trans h4) hw (hr.cong hge q2.2.2.2.2) h15) (c_pos o9 (o_way49 o9)))), q2.up15⟩
  | ok p1 =>
    rw [e1] at s1
    obtain ⟨M1, q1, q2, q3⟩ := s1
    obtain ⟨h10, h0, -⟩ := sBg_ok hA.1.1 e1
    have w41 : M1 138 4 = (w : Int) := (q3.1 4 (by decide)).trans h4
    have hr1 := hr.cong hge q3.2
    have s2 := m_two (T := T) hn q2 w41 hw hr1 h15
    show mLn B n w _ M (sl2 B n A p1)
    rw [sl2_tw]
    cases e2 : sTw B n A p1 with
    | error e =>
      rw [e2] at s2
      obtain ⟨x, M', r1, r2, -, -⟩ := s2
      exact ⟨M', c_ite hw (c_bind q1 (c_bind r1 (c_pos r2.1 (o_way49 r2.1)))), r2.of q3.kF⟩
    | ok x =>
      rw [e2] at s2
      obtain ⟨M2, r1, r2, r3, r4⟩ := s2
      obtain ⟨ha, hb, hab, hk2⟩ := sTw_ok hA e2
      have k2 : kG M M2 := q3.kG.trans r4
      have w42 : M2 138 4 = (w : Int) := (k2.1 4 (by decide)).trans h4
      have hr2 := hr.cong hge k2.2
      have hwy := g_wwd (T := T) hr2 hA (a := x.1) (b := x.2)
      show mLn B n w _ M (sY B n A x.1 x.2 (kX B n p1))
      unfold sY
      have pre : ∀ y, (if (if wy A x.1 x.2 < A 0 2 then (wy A x.1 x.2 : Int) else -1) = (-1) then b_X13_readWay_49 T (x.1 : Int) (x.2 : Int) M2 else (f_X13_flaw T 3 M2).bind fun x143 => b_X13_readWay_49 T (x.1 : Int) (x.2 : Int) x143.2) = y → (if okW T (w : Int) then (f_X13_lineBegins T (A 0 2 : Int) 10 M).bind (fun x2 => (f_X13_readTwo T x2.2).bind fun x6 => if (x6.2 138 9) = 5 then b_X13_readWay_49 T x6.1 (x6.2 138 15) x6.2 else if okW T (x6.2 138 4) then (f_X12_way T (x6.2 138 4).toNat x6.1 (x6.2 138 15) x6.2).bind (fun x140 => if x140 = (-1) then b_X13_readWay_49 T x6.1 (x6.2 138 15) x6.2 else (f_X13_flaw T 3 x6.2).bind fun x143 => b_X13_readWay_49 T x6.1 (x6.2 138 15) x143.2) else none) else none) = y := by
        intro y hy
        refine c_ite hw (c_bind q1 (c_bind r1 (c_neg r2.n5 ?_)))
        show (if okW T (M2 138 4) then (f_X12_way T (M2 138 4).toNat (x.1 : Int) (M2 138 15) M2).bind (fun x140 => if x140 = (-1) then b_X13_readWay_49 T (x.1 : Int) (M2 138 15) M2 else (f_X13_flaw T 3 M2).bind fun x143 => b_X13_readWay_49 T (x.1 : Int) (M2 138 15) x143.2) else none) = y
        rw [w42, Int.toNat_natCast, r3]
        exact c_ite hw (c_bind hwy hy)
      by_cases hbad : wy A x.1 x.2 < A 0 2
      · rw [if_pos hbad]
        rw [if_pos hbad] at pre
        obtain ⟨M', t1, t2⟩ := m_flaw (T := T) r2 3
        exact ⟨M', pre _ (c_neg (by omega) (c_bind t1 (o_way49 t2.1))), t2.of k2.kF⟩
      · rw [if_neg hbad]
        rw [if_neg hbad] at pre
        obtain ⟨M3, t1, t2, t3⟩ := r2.on (T := T) hn (by rw [hk2]; decide)
        have s3 := m_part (T := T) hn t2 (k := 37) (lo := 1) (hi := 20) (v := 2000037) (a := 1) (b := 20) (by decide) rfl rfl rfl
        rw [sNu_eq pkd_t.2.2.2.2.2.1] at s3
        cases e3 : sNu B n 5 1 20 (kX B n (kX B n p1)) with
        | error e =>
          rw [e3] at s3
          obtain ⟨z, M', u1, u2⟩ := s3
          refine ⟨M', pre _ (c_pos rfl ?_), u2.of (k2.trans t3.kG).kF⟩
          unfold b_X13_readWay_49
          exact c_bind t1 (c_bind u1 (c_bind (o_isWord u2.1 (by decide)) (c_pos rfl (c_bind (o_isWord u2.1 (by decide)) (c_pos rfl (c_bind (o_flaw u2.1 1) (o_way93 u2.1)))))))
        | ok y =>
          rw [e3] at s3
          obtain ⟨M4, u1, u2, u3⟩ := s3
          have k4 : kG M M4 := (k2.trans t3.kG).trans u3.kG
          have w44 : M4 138 4 = (w : Int) := (k4.1 4 (by decide)).trans h4
          have hr4 := hr.cong hge k4.2
          have v6 := u2.wrd (T := T) (k := 38) (v := 2000038) (by decide) rfl
          have v7 := u2.wrd (T := T) (k := 39) (v := 2000039) (by decide) rfl
          rw [isw_eq pkd_t.2.2.2.2.2.2.1] at v6
          rw [isw_eq pkd_t.2.2.2.2.2.2.2.1] at v7
          have c6 : M4 w 6 = (A 1 4 : Int) := hr4.2.2.1.2.1
          have hbits : f_X13_bits T (M4 w 6) M4 = some ((cntp (A 1 4).testBit 16 : Nat) : Int) := by
            rw [c6]
            exact g_bits (Nat.lt_of_lt_of_le hA.2.1.2.2.2.2.1 (Nat.pow_le_pow_right (n := 2) (j := 16) (by decide) (by omega)))
          have hc6 : cntp (A 1 4).testBit 16 ≤ 6 := by
            have h1 := hA.2.1.2.2.2.2.2.1
            unfold cut6 at h1
            have h2 := cnt10 (s := A 1 4) (Nat.lt_of_lt_of_le hA.2.1.2.2.2.2.1 (Nat.pow_le_pow_right (n := 2) (j := 10) (by decide) (by omega))) (n := 10) (Nat.lt_of_lt_of_le hA.2.1.2.2.2.2.1 (Nat.pow_le_pow_right (n := 2) (j := 10) (by decide) (by omega))) (m := 16) (by decide)
            omega
          show mLn B n w _ M (if isw B n 6 y.2 = true then _ else _)
          cases hm : isw B n 6 y.2
          · rw [if_neg Bool.false_ne_true]
            rw [hm] at v6
            cases hd : isw B n 7 y.2
            · rw [if_neg Bool.false_ne_true]
              rw [hd] at v7
              obtain ⟨M', z1, z2⟩ := m_flaw (T := T) u2 1
              refine ⟨M', pre _ (c_pos rfl ?_), z2.of k4.kF⟩
              unfold b_X13_readWay_49
              exact c_bind t1 (c_bind u1 (c_bind v6 (c_pos rfl (c_bind v7 (c_pos rfl (c_bind z1 (o_way93 z2.1)))))))
            · rw [if_pos rfl]
              rw [hd] at v7
              obtain ⟨M', z1, z2, z3, z4⟩ := m_way118 (T := T) hn hA u2 w44 hw hr4 (isw_4 hd) h0 h10 (a := x.1) (b := x.2) (l := y.1) hab false
              rw [if_neg Bool.false_ne_true] at z3
              refine ⟨M', pre _ (c_pos rfl ?_), z2, z3, k4.kL.trans z4⟩
              unfold b_X13_readWay_49
              refine c_bind t1 (c_bind u1 (c_bind v6 (c_pos rfl (c_bind v7 (c_neg (by decide) ?_)))))
              unfold b_X13_readWay_93
              exact c_pos rfl z1
          · rw [if_pos rfl]
            rw [hm] at v6
            by_cases hc : cntp (A 1 4).testBit 16 < 6
            · rw [if_pos hc]
              obtain ⟨M', z1, z2, z3, z4⟩ := m_way118 (T := T) hn hA u2 w44 hw hr4 (isw_4 hm) h0 h10 (a := x.1) (b := x.2) (l := y.1) hab true
              rw [if_pos rfl] at z3
              refine ⟨M', pre _ (c_pos rfl ?_), z2, z3, k4.kL.trans z4⟩
              unfold b_X13_readWay_49
              refine c_bind t1 (c_bind u1 (c_bind v6 (c_neg (by decide) ?_)))
              unfold b_X13_readWay_93
              refine c_neg (by decide) ?_
              show (if okW T (M4 138 4) then (f_X13_bits T (M4 (M4 138 4).toNat 6) M4).bind (fun x125 => if x125 = 6 then (f_X13_flaw T 5 M4).bind (fun x128 => b_X13_readWay_118 T (x.1 : Int) (x.2 : Int) (y.1 : Int) 1 x128.2) else b_X13_readWay_118 T (x.1 : Int) (x.2 : Int) (y.1 : Int) 1 M4) else none) = _
              rw [w44, Int.toNat_natCast]
              exact c_ite hw (c_bind hbits (c_neg (by omega) z1))
            · rw [if_neg hc]
              obtain ⟨M', z1, z2⟩ := m_flaw (T := T) u2 5
              refine ⟨M', pre _ (c_pos rfl ?_), z2.of k4.kF⟩
              unfold b_X13_readWay_49
              refine c_bind t1 (c_bind u1 (c_bind v6 (c_neg (by decide) ?_)))
              unfold b_X13_readWay_93
              refine c_neg (by decide) ?_
              show (if okW T (M4 138 4) then (f_X13_bits T (M4 (M4 138 4).toNat 6) M4).bind (fun x125 => if x125 = 6 then (f_X13_flaw T 5 M4).bind (fun x128 => b_X13_readWay_118 T (x.1 : Int) (x.2 : Int) (y.1 : Int) 1 x128.2) else b_X13_readWay_118 T (x.1 : Int) (x.2 : Int) (y.1 : Int) 1 M4) else none) = _
              rw [w44, Int.toNat_natCast]
              exact c_ite hw (c_bind hbits (c_pos (by omega) (c_bind z1 (o_way118 z2.1))))
end Mlm
