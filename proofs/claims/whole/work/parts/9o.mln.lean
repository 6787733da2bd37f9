/-! ===== the model reads: each line ===== -/
section Mln
variable {B : Nat → Int} {n p : Nat} {T w : Nat} {M M1 : aM} {A : aA}
/-- how a line comes out -/
def mLn (B : Nat → Int) (n w : Nat) (x : Option (Int × aM)) (M : aM) (e : Except rE (aA × Nat)) : Prop := match e with
  | .error er => ∃ M', x = some (0, M') ∧ mE M M' er
  | .ok y => ∃ M', x = some (0, M') ∧ KM B n M' y.2 ∧ MRd M' w y.1 ∧ kL w M M'
theorem isw_eq {a b : Nat} (h : pkd a = pkd b) : isw B n a p = isw B n b p := by unfold isw; rw [h]
theorem sNu_eq {a b lo hi : Nat} (h : pkd a = pkd b) : sNu B n a lo hi p = sNu B n b lo hi p := by unfold sNu; rw [isw_eq h]
theorem sWd_eq {a b : Nat} (h : pkd a = pkd b) : sWd B n a p = sWd B n b p := by unfold sWd; rw [isw_eq h]
theorem pkd_t : pkd 32 = pkd 0 ∧ pkd 33 = pkd 1 ∧ pkd 34 = pkd 2 ∧ pkd 35 = pkd 3 ∧ pkd 36 = pkd 4 ∧ pkd 37 = pkd 5 ∧ pkd 38 = pkd 6 ∧ pkd 39 = pkd 7 ∧ pkd 40 = pkd 20 ∧ pkd 41 = pkd 21 ∧ pkd 42 = pkd 22 ∧ pkd 43 = pkd 23 ∧ pkd 44 = pkd 8 ∧ pkd 45 = pkd 9 ∧ pkd 46 = pkd 10 ∧ pkd 47 = pkd 11 := by decide +kernel
theorem KM.cong {M' : aM} (h : KM B n M p) (e1 : M' 138 = M 138) (e2 : M' 139 = M 139) : KM B n M' p := by
  unfold KM
  rw [e1, e2]
  exact h
theorem KM.up (h : KM B n M p) {c k : Nat} {v : Int} (hc : 154 ≤ c) : KM B n (aup M c k v) p := h.cong (aup_nc (by omega)) (aup_nc (by omega))
theorem KM.n5 (h : KM B n M p) : ¬ M 138 9 = 5 := by rw [h.1.2.2.1]; have := mst_5 (kS_lt B n p); omega
theorem okw_ge (hw : okW T (w : Int)) : 154 ≤ w := by have := hw.1; omega
theorem m_names (hw : okW T (w : Int)) (h4 : M 138 4 = (w : Int)) (hr : MRd M w A) (h15 : A 0 8 < 15) {u s nb : Nat} : f_X13_names T (u : Int) (s : Int) (nb : Int) M = some (0, nmW M w A u s nb) := by
  have hge := okw_ge hw
  have h13 : M w 13 = (A 0 8 : Int) := hr.2.1 8 (by decide) (by decide)
  unfold f_X13_names
  rw [h4, Int.toNat_natCast, h13, Int.toNat_natCast]
  have a4 : aup M (w + 12) (A 0 8) (u : Int) 138 4 = (w : Int) := by rw [aup_nc (by omega)]; exact h4
  have a13 : aup M (w + 12) (A 0 8) (u : Int) w 13 = (A 0 8 : Int) := by rw [aup_nc (by omega)]; exact h13
  refine c_ite hw (c_ite (by omega) (c_some ?_))
  rw [a4, Int.toNat_natCast, a13, Int.toNat_natCast]
  have b4 : aup (aup M (w + 12) (A 0 8) (u : Int)) (w + 13) (A 0 8) (s : Int) 138 4 = (w : Int) := by rw [aup_nc (by omega)]; exact a4
  have b13 : aup (aup M (w + 12) (A 0 8) (u : Int)) (w + 13) (A 0 8) (s : Int) w 13 = (A 0 8 : Int) := by rw [aup_nc (by omega)]; exact a13
  refine c_ite hw (c_ite (by omega) (c_some ?_))
  rw [b4, Int.toNat_natCast, b13, Int.toNat_natCast]
  have c4 : aup (aup (aup M (w + 12) (A 0 8) (u : Int)) (w + 13) (A 0 8) (s : Int)) (w + 14) (A 0 8) (nb : Int) 138 4 = (w : Int) := by rw [aup_nc (by omega)]; exact b4
  have c13 : aup (aup (aup M (w + 12) (A 0 8) (u : Int)) (w + 13) (A 0 8) (s : Int)) (w + 14) (A 0 8) (nb : Int) w 13 = (A 0 8 : Int) := by rw [aup_nc (by omega)]; exact b13
  refine c_ite hw (c_ite (by omega) (c_some ?_))
  rw [c4, Int.toNat_natCast, c13]
  exact c_ite hw (c_ite (by omega) (c_some rfl))
theorem nmW_w {u s nb : Nat} (hge : 154 ≤ w) {k : Nat} (hk : k ≠ 13) : nmW M w A u s nb w k = M w k := by
  unfold nmW
  rw [aup_ne2 hk, aup_nc (by omega), aup_nc (by omega), aup_nc (by omega)]
theorem nmW_138 {u s nb m : Nat} (hge : 154 ≤ w) (hm : m < 154) : nmW M w A u s nb m = M m := by
  unfold nmW
  rw [aup_nc (by omega), aup_nc (by omega), aup_nc (by omega), aup_nc (by omega)]
theorem kL_nm {u s nb : Nat} (hge : 154 ≤ w) : kL w M (nmW M w A u s nb) := (((kL_up hge (by omega)).trans (kL_up hge (by omega))).trans (kL_up hge (by omega))).trans (kL_up hge (by omega))
/-- a fresh name -/
theorem m_fresh (hn : n ≤ 900) (h : KM B n M p) (h4 : M 138 4 = (w : Int)) (hw : okW T (w : Int)) (hr : MRd M w A) (h15 : A 0 8 ≤ 15) : match sNw B n A p with
    | .error e => ∃ x M', f_X13_readFresh T M = some (x, M') ∧ mE M M' e
    | .ok p' => ∃ M', f_X13_readFresh T M = some ((kW B n p : Int), M') ∧ KM B n M' p' ∧ kT M M' := by
  have hge := okw_ge hw
  have hi := m_isName (T := T) h
  unfold sNw f_X13_readFresh
  cases hnm : isn B n p
  · rw [if_neg Bool.false_ne_true]
    rw [hnm] at hi
    obtain ⟨M', e1, e2⟩ := m_flaw (T := T) h 1
    exact ⟨_, M', c_bind hi (c_pos rfl (c_bind e1 (o_fresh12 e2.1 ((e2.2.2.2.1 4 (by decide)).trans h4) hw (hr.cong hge e2.2.2.2.2) h15))), e2⟩
  · rw [if_pos rfl]
    rw [hnm] at hi
    have hk := isn_1 hnm
    have h14 : M 138 14 = (kW B n p : Int) := h.1.2.2.2.2.1 hk
    have hf := g_findn (T := T) hr h15 (kW B n p)
    by_cases hff : fnn A (kW B n p) < A 0 8
    · rw [if_pos hff] at hf ⊢
      obtain ⟨M', e1, e2⟩ := m_flaw (T := T) h 3
      refine ⟨M' 138 14, M', c_bind hi (c_neg (by decide) ?_), e2⟩
      unfold b_X13_readFresh_12
      rw [h4, Int.toNat_natCast, h14]
      exact c_ite hw (c_bind hf (c_neg (by omega) (c_bind e1 (o_fresh32 e2.1))))
    · rw [if_neg hff] at hf ⊢
      obtain ⟨M', e1, e2, e3⟩ := h.on (T := T) hn (by rw [hk]; decide)
      refine ⟨M', c_bind hi (c_neg (by decide) ?_), e2, e3⟩
      unfold b_X13_readFresh_12
      rw [h4, Int.toNat_natCast, h14]
      refine c_ite hw (c_bind hf (c_pos rfl ?_))
      unfold b_X13_readFresh_32
      refine c_bind e1 ?_
      rw [h14]
/-- a line begins -/
def sBg (B : Nat → Int) (n : Nat) (A : aA) (c r p : Nat) : Except rE Nat := if r ≤ c then .error (5, p) else if A 0 0 = 0 then .error (6, p) else .ok (kX B n p)
theorem m_begins (hn : n ≤ 900) (h : KM B n M p) (h4 : M 138 4 = (w : Int)) (hw : okW T (w : Int)) (hr : MRd M w A) (h01 : A 0 0 ≤ 1) (hk : kS B n p = 1) {c r : Nat} (hcr : c ≤ r) {v b : Int} (hv : v = (c : Int)) (hb : b = (r : Int)) : match sBg B n A c r p with
    | .error e => ∃ M', f_X13_lineBegins T v b M = some (0, M') ∧ mE M M' e
    | .ok p' => ∃ M', f_X13_lineBegins T v b M = some (0, M') ∧ KM B n M' p' ∧ kT M M' := by
  subst hv hb
  have hge := okw_ge hw
  have hw0 := hr.1.1
  unfold sBg f_X13_lineBegins
  by_cases h5 : r ≤ c
  · rw [if_pos h5]
    obtain ⟨M', e1, e2⟩ := m_flaw (T := T) h 5
    have e4 : M' 138 4 = (w : Int) := (e2.2.2.2.1 4 (by decide)).trans h4
    refine ⟨M', c_pos (by omega) (c_bind e1 ?_), e2⟩
    show (if okW T (M' 138 4) then _ else _) = _
    rw [e4]
    refine c_ite hw ?_
    split
    · exact c_bind (o_flaw e2.1 6) (c_bind (o_goesOn e2.1) rfl)
    · exact c_bind (o_goesOn e2.1) rfl
  · rw [if_neg h5]
    by_cases h0 : A 0 0 = 0
    · rw [if_pos h0]
      rw [if_neg (by omega)] at hw0
      obtain ⟨M', e1, e2⟩ := m_flaw (T := T) h 6
      refine ⟨M', c_neg (by omega) ?_, e2⟩
      rw [h4, Int.toNat_natCast, hw0]
      exact c_ite hw (c_pos rfl (c_bind e1 (c_bind (o_goesOn e2.1) rfl)))
    · rw [if_neg h0]
      rw [if_pos (by omega)] at hw0
      obtain ⟨M', e1, e2, e3⟩ := h.on (T := T) hn (by rw [hk]; decide)
      refine ⟨M', c_neg (by omega) ?_, e2, e3⟩
      rw [h4, Int.toNat_natCast, hw0]
      exact c_ite hw (c_neg (by omega) (c_bind e1 rfl))
/-! each line -/
theorem ml0 (hn : n ≤ 900) (hA : WFd A) (h : KM B n M p) (h4 : M 138 4 = (w : Int)) (hw : okW T (w : Int)) (hr : MRd M w A) (hk : kS B n p = 1) : mLn B n w (f_X13_readWell T M) M (if 0 < A 0 0 then .error (3, p) else sl0 B n A (kX B n p)) := by
  have hge := okw_ge hw
  have h01 := hA.1.1
  have hw0 := hr.1.1
  have over : ∀ M2 : aM, M2 138 9 = 5 → b_X13_readWell_16 T M2 = some (0, M2) := fun M2 h5 => by
    unfold b_X13_readWell_16
    exact c_bind (o_goesOn h5) (c_bind (o_readPart h5 (by decide)) (c_bind (o_readPart h5 (by decide)) (c_bind (o_readPart h5 (by decide)) (c_pos h5 rfl))))
  unfold f_X13_readWell
  rw [h4, Int.toNat_natCast]
  by_cases h0 : 0 < A 0 0
  · rw [if_pos h0]
    rw [if_pos (by omega)] at hw0
    obtain ⟨M', e1, e2⟩ := m_flaw (T := T) h 3
    exact ⟨M', c_ite hw (c_neg (by rw [hw0]; omega) (c_bind e1 (over M' e2.1))), e2⟩
  · rw [if_neg h0]
    have h00 : A 0 0 = 0 := by omega
    rw [if_neg (by omega)] at hw0
    obtain ⟨M1, q1, q2, q3⟩ := h.on (T := T) hn (by rw [hk]; decide)
    have s1 := m_part (T := T) hn q2 (k := 32) (lo := 0) (hi := 99) (v := 2000032) (a := 0) (b := 99) (by decide) rfl rfl rfl
    rw [sNu_eq pkd_t.1] at s1
    unfold sl0
    have pre : ∀ y, b_X13_readWell_16 T M = y → (if okW T (w : Int) then if M w 0 = (-1) then b_X13_readWell_16 T M else (f_X13_flaw T 3 M).bind (fun x29 => b_X13_readWell_16 T x29.2) else none) = y := fun y hy => c_ite hw (c_pos hw0 hy)
    cases e1 : sNu B n 0 0 99 (kX B n p) with
    | error e =>
      rw [e1] at s1
      obtain ⟨x, M', r1, r2⟩ := s1
      refine ⟨M', pre _ ?_, r2.of q3.kF⟩
      unfold b_X13_readWell_16
      exact c_bind q1 (c_bind r1 (c_bind (o_readPart r2.1 (by decide)) (c_bind (o_readPart r2.1 (by decide)) (c_pos r2.1 rfl))))
    | ok x =>
      rw [e1] at s1
      obtain ⟨M2, r1, r2, r3⟩ := s1
      have s2 := m_part (T := T) hn r2 (k := 33) (lo := 0) (hi := 100) (v := 2000033) (a := 0) (b := 100) (by decide) rfl rfl rfl
      rw [sNu_eq pkd_t.2.1] at s2
      show mLn B n w _ M ((sNu B n 1 0 100 x.2).bind _)
      cases e2 : sNu B n 1 0 100 x.2 with
      | error e =>
        rw [e2] at s2
        obtain ⟨y, M', t1, t2⟩ := s2
        refine ⟨M', pre _ ?_, t2.of (q3.trans r3).kF⟩
        unfold b_X13_readWell_16
        exact c_bind q1 (c_bind r1 (c_bind t1 (c_bind (o_readPart t2.1 (by decide)) (c_pos t2.1 rfl))))
      | ok y =>
        rw [e2] at s2
        obtain ⟨M3, t1, t2, t3⟩ := s2
        have s3 := m_part (T := T) hn t2 (k := 34) (lo := 0) (hi := 100) (v := 2000034) (a := 0) (b := 100) (by decide) rfl rfl rfl
        rw [sNu_eq pkd_t.2.2.1] at s3
        show mLn B n w _ M ((sNu B n 2 0 100 y.2).bind _)
        cases e3 : sNu B n 2 0 100 y.2 with
        | error e =>
          rw [e3] at s3
          obtain ⟨z, M', u1, u2⟩ := s3
          refine ⟨M', pre _ ?_, u2.of ((q3.trans r3).trans t3).kF⟩
          unfold b_X13_readWell_16
          exact c_bind q1 (c_bind r1 (c_bind t1 (c_bind u1 (c_pos u2.1 rfl))))
        | ok z =>
          rw [e3] at s3
          obtain ⟨M4, u1, u2, u3⟩ := s3
          have k4 : kT M M4 := ((q3.trans r3).trans t3).trans u3
          have w4 : M4 138 4 = (w : Int) := (k4.1 4 (by decide)).trans h4
          refine ⟨G0w M4 w x.1 y.1 z.1, pre _ ?_, ((u2.up hge).up hge).up hge, md0 (hr.cong hge k4.2) hA h00, k4.kG.kL.trans (((kL_up hge (by omega)).trans (kL_up hge (by omega))).trans (kL_up hge (by omega)))⟩
          unfold b_X13_readWell_16
          refine c_bind q1 (c_bind r1 (c_bind t1 (c_bind u1 (c_neg u2.n5 ?_))))
          show (if okW T (M4 138 4) then (some (aup M4 (M4 138 4).toNat 0 (x.1 : Int))).bind (fun m21 => if okW T (m21 138 4) then (some (aup m21 (m21 138 4).toNat 1 (y.1 : Int))).bind (fun m24 => if okW T (m24 138 4) then (some (aup m24 (m24 138 4).toNat 2 (z.1 : Int))).bind (fun m27 => some ((0 : Int), m27)) else none) else none) else none) = _
          rw [w4, Int.toNat_natCast]
          have a4 : aup M4 w 0 (x.1 : Int) 138 4 = (w : Int) := by rw [aup_nc (by omega)]; exact w4
          have b4 : aup (aup M4 w 0 (x.1 : Int)) w 1 (y.1 : Int) 138 4 = (w : Int) := by rw [aup_nc (by omega)]; exact a4
          refine c_ite hw (c_some ?_)
          rw [a4, Int.toNat_natCast]
          refine c_ite hw (c_some ?_)
          rw [b4, Int.toNat_natCast]
          exact c_ite hw (c_some rfl)
theorem o_cave43 (h5 : M 138 9 = 5) {a b : Int} : b_X13_readACave_43 T a b M = some (0, M) := by
  unfold b_X13_readACave_43
  exact c_bind (o_goesOn h5) (c_pos h5 rfl)
def rC43 (T : Nat) (v3 : Int) (M : aM) : Option (Int × aM) := if okW T (M 138 4) then
 if v3 = 0 then
 (some (aup M (M 138 4).toNat 4 (aor (M (M 138 4).toNat 4) 0))).bind fun m25 =>
 if okW T (m25 138 4) then
 if aIn ((m25 (m25 138 4).toNat 3) + 1) then
 (some (aup m25 (m25 138 4).toNat 3 ((m25 (m25 138 4).toNat 3) + 1))).bind fun m29 =>
 some (0, m29) else none else none else
 (some (aup M (M 138 4).toNat 4 (aor (M (M 138 4).toNat 4) (ashl 1 (M (M 138 4).toNat 3))))).bind fun m31 =>
 if okW T (m31 138 4) then
 if aIn ((m31 (m31 138 4).toNat 3) + 1) then
 (some (aup m31 (m31 138 4).toNat 3 ((m31 (m31 138 4).toNat 3) + 1))).bind fun m35 =>
 some (0, m35) else none else none else none
theorem m_cave43 (hn : n ≤ 900) (hA : WFd A) (h : KM B n M p) (h4 : M 138 4 = (w : Int)) (hw : okW T (w : Int)) (hr : MRd M w A) (hk : kS B n p = 1) (h0 : A 0 0 = 1) (h8 : A 0 1 < 8) {u : Nat} (mo : Bool) : ∃ M', b_X13_readACave_43 T (u : Int) (bI mo) M = some (0, M') ∧ KM B n M' (kX B n p) ∧ MRd M' w (L1 A (if mo = true then A 1 3 ||| 2 ^ A 0 1 else A 1 3) u) ∧ kL w M M' := by
  have hge := okw_ge hw
  have h256 := hA.2.1.2.2.2.1
  have h15 := names_15 hA (j := 1) (by decide) h8
  obtain ⟨M1, q1, q2, q3⟩ := h.on (T := T) hn (by rw [hk]; decide)
  have w4 : M1 138 4 = (w : Int) := (q3.1 4 (by decide)).trans h4
  have hr1 := hr.cong hge q3.2
  have c3 : M1 w 3 = (A 0 1 : Int) := hr1.2.1 1 (by decide) (by decide)
  have c4 : M1 w 4 = (A 1 3 : Int) := hr1.2.2.1.1
  have hnm := m_names (T := T) hw w4 hr1 h15 (u := u) (s := 0) (nb := A 0 1)
  have x4 : nmW M1 w A u 0 (A 0 1) 138 4 = (w : Int) := by rw [nmW_138 hge (by decide)]; exact w4
  have x3 : nmW M1 w A u 0 (A 0 1) w 3 = (A 0 1 : Int) := by rw [nmW_w hge (by decide)]; exact c3
  have xm : nmW M1 w A u 0 (A 0 1) w 4 = (A 1 3 : Int) := by rw [nmW_w hge (by decide)]; exact c4
  have y4 : ∀ m : Int, aup (nmW M1 w A u 0 (A 0 1)) w 4 m 138 4 = (w : Int) := fun m => by rw [aup_nc (by omega)]; exact x4
  have y3 : ∀ m : Int, aup (nmW M1 w A u 0 (A 0 1)) w 4 m w 3 = (A 0 1 : Int) := fun m => by rw [aup_ne2 (by decide)]; exact x3
  have hlast : ∀ m : Nat, (if okW T (aup (nmW M1 w A u 0 (A 0 1)) w 4 (m : Int) 138 4) then if aIn ((aup (nmW M1 w A u 0 (A 0 1)) w 4 (m : Int) (aup (nmW M1 w A u 0 (A 0 1)) w 4 (m : Int) 138 4).toNat 3) + 1) then (some (aup (aup (nmW M1 w A u 0 (A 0 1)) w 4 (m : Int)) (aup (nmW M1 w A u 0 (A 0 1)) w 4 (m : Int) 138 4).toNat 3 ((aup (nmW M1 w A u 0 (A 0 1)) w 4 (m : Int) (aup (nmW M1 w A u 0 (A 0 1)) w 4 (m : Int) 138 4).toNat 3) + 1))).bind (fun m29 => some ((0 : Int), m29)) else none else none) = some (0, G1w M1 w A m u) := fun m => by
    rw [y4, Int.toNat_natCast, y3]
    exact c_ite hw (c_ite (by omega) (c_some rfl))
  refine ⟨G1w M1 w A (if mo = true then A 1 3 ||| 2 ^ A 0 1 else A 1 3) u, ?_, ?_, md1 hr1 h0, q3.kG.kL.trans (((kL_nm hge).trans (kL_up hge (by omega))).trans (kL_up hge (by omega)))⟩
  · unfold b_X13_readACave_43
    refine c_bind q1 (c_neg q2.n5 ?_)
    show (if okW T (M1 138 4) then (f_X13_names T (u : Int) 0 (M1 (M1 138 4).toNat 3) M1).bind (fun x19 => rC43 T (bI mo) x19.2) else none) = _
    rw [w4, Int.toNat_natCast, c3]
    refine c_ite hw (c_bind hnm ?_)
    show rC43 T (bI mo) (nmW M1 w A u 0 (A 0 1)) = _
    unfold rC43
    rw [x4, Int.toNat_natCast]
    refine c_ite hw ?_
    cases mo
    · rw [if_neg Bool.false_ne_true]
      refine c_pos rfl (c_some ?_)
      rw [xm, aor_0 (by omega)]
      exact hlast (A 1 3)
    · rw [if_pos rfl]
      refine c_neg (by decide) (c_some ?_)
      rw [xm, x3, ashl_one _ (by omega), aor_nat (by omega) (Nat.pow_lt_pow_right (a := 2) (n := 31) (by decide) (by omega))]
      exact hlast (A 1 3 ||| 2 ^ A 0 1)
  · refine (KM.cong ?_ (nmW_138 hge (by decide)) (nmW_138 hge (by decide)) |>.up hge).up hge
    exact q2
theorem ml1 (hn : n ≤ 900) (hA : WFd A) (h : KM B n M p) (h4 : M 138 4 = (w : Int)) (hw : okW T (w : Int)) (hr : MRd M w A) (hk : kS B n p = 1) : mLn B n w (f_X13_readACave T M) M ((sBg B n A (A 0 1) 8 p).bind fun p1 => sl1 B n A p1) := by
  have hge := okw_ge hw
  have h15 := names_le hA
  have c3 : M w 3 = (A 0 1 : Int) := hr.2.1 1 (by decide) (by decide)
  unfold f_X13_readACave
  rw [h4, Int.toNat_natCast, c3]
  have s1 := m_begins (T := T) hn h h4 hw hr hA.1.1 hk (c := A 0 1) (r := 8) hA.1.2.1 rfl rfl
  cases e1 : sBg B n A (A 0 1) 8 p with
  | error e =>
    rw [e1] at s1
    obtain ⟨M', q1, q2⟩ := s1
    exact ⟨M', c_ite hw (c_bind q1 (c_bind (o_fresh q2.1 ((q2.2.2.2.1 4 (by decide)).trans h4) hw (hr.cong hge q2.2.2.2.2) h15) (c_bind (o_isWord q2.1 (by decide)) (c_pos rfl (c_bind (o_isWord q2.1 (by decide)) (c_pos rfl (c_bind (o_flaw q2.1 1) (o_cave43 q2.1)))))))), q2⟩
  | ok p1 =>
    rw [e1] at s1
    obtain ⟨M1, q1, q2, q3⟩ := s1
    obtain ⟨h8, h0⟩ : A 0 1 < 8 ∧ A 0 0 = 1 := by
      unfold sBg at e1
      split at e1
      · cases e1
      · split at e1
        · cases e1
        · have := hA.1.1; exact ⟨by omega, by omega⟩
    have w41 : M1 138 4 = (w : Int) := (q3.1 4 (by decide)).trans h4
    have hr1 := hr.cong hge q3.2
    have s2 := m_fresh (T := T) hn q2 w41 hw hr1 h15
    show mLn B n w _ M (sl1 B n A p1)
    unfold sl1
    cases e2 : sNw B n A p1 with
    | error e =>
      rw [e2] at s2
      obtain ⟨x, M', r1, r2⟩ := s2
      exact ⟨M', c_ite hw (c_bind q1 (c_bind r1 (c_bind (o_isWord r2.1 (by decide)) (c_pos rfl (c_bind (o_isWord r2.1 (by decide)) (c_pos rfl (c_bind (o_flaw r2.1 1) (o_cave43 r2.1)))))))), r2.of q3.kF⟩
    | ok p2 =>
      rw [e2] at s2
      obtain ⟨M2, r1, r2, r3⟩ := s2
      have k2 : kT M M2 := q3.trans r3
      have w42 : M2 138 4 = (w : Int) := (k2.1 4 (by decide)).trans h4
      have hr2 := hr.cong hge k2.2
      have v3 := r2.wrd (T := T) (k := 35) (v := 2000035) (by decide) rfl
      have v4 := r2.wrd (T := T) (k := 36) (v := 2000036) (by decide) rfl
      rw [isw_eq pkd_t.2.2.2.1] at v3
      rw [isw_eq pkd_t.2.2.2.2.1] at v4
      show mLn B n w _ M (if isw B n 3 p2 = true then _ else _)
      cases hm : isw B n 3 p2
      · rw [if_neg Bool.false_ne_true]
        rw [hm] at v3
        cases hd : isw B n 4 p2
        · rw [if_neg Bool.false_ne_true]
          rw [hd] at v4
          obtain ⟨M', t1, t2⟩ := m_flaw (T := T) r2 1
          exact ⟨M', c_ite hw (c_bind q1 (c_bind r1 (c_bind v3 (c_pos rfl (c_bind v4 (c_pos rfl (c_bind t1 (o_cave43 t2.1)))))))), t2.of k2.kF⟩
        · rw [if_pos rfl]
          rw [hd] at v4
          obtain ⟨M', t1, t2, t3, t4⟩ := m_cave43 (T := T) hn hA r2 w42 hw hr2 (isw_4 hd) h0 h8 (u := kW B n p1) false
          rw [if_neg Bool.false_ne_true] at t3
          exact ⟨M', c_ite hw (c_bind q1 (c_bind r1 (c_bind v3 (c_pos rfl (c_bind v4 (c_neg (by decide) t1)))))), t2, t3, k2.kG.kL.trans t4⟩
      · rw [if_pos rfl]
        rw [hm] at v3
        obtain ⟨M', t1, t2, t3, t4⟩ := m_cave43 (T := T) hn hA r2 w42 hw hr2 (isw_4 hm) h0 h8 (u := kW B n p1) true
        rw [if_pos rfl] at t3
        exact ⟨M', c_ite hw (c_bind q1 (c_bind r1 (c_bind v3 (c_neg (by decide) t1)))), t2, t3, k2.kG.kL.trans t4⟩
end Mln
