/-! ===== the model reads: voices, folk, echoes, unsure ways, talk ===== -/
section Mlo
variable {B : Nat → Int} {n p : Nat} {T w : Nat} {M M1 : aM} {A : aA}
def rV85 (T : Nat) (v3 at' : Int) (M : aM) : Option (Int × aM) := if okW T (M 138 4) then
 if 0 ≤ (M (M 138 4).toNat 7) ∧ (M (M 138 4).toNat 7) < 3 then
 (some (aup M ((M 138 4).toNat + 4) ((M (M 138 4).toNat 7)).toNat v3)).bind fun m43 =>
 if okW T (m43 138 4) then
 if 0 ≤ (m43 (m43 138 4).toNat 7) ∧ (m43 (m43 138 4).toNat 7) < 3 then
 (some (aup m43 ((m43 138 4).toNat + 5) ((m43 (m43 138 4).toNat 7)).toNat at')).bind fun m47 =>
 if okW T (m47 138 4) then
 if aIn ((m47 (m47 138 4).toNat 7) + 1) then
 (some (aup m47 (m47 138 4).toNat 7 ((m47 (m47 138 4).toNat 7) + 1))).bind fun m51 =>
 some (0, m51) else none else none else none else none else none else none
theorem o_voice85 (h5 : M 138 9 = 5) (h4 : M 138 4 = (w : Int)) (hw : okW T (w : Int)) (hr : MRd M w A) (h15 : A 0 8 ≤ 15) {a b : Int} : b_X13_readVoice_85 T a b M = some (0, M) := by
  unfold b_X13_readVoice_85
  exact c_bind (o_goesOn h5) (c_bind (o_needs h5 (by decide)) (c_bind (o_readCave h5 h4 hw hr h15) (c_pos h5 rfl)))
theorem o_voice74 (h5 : M 138 9 = 5) (h4 : M 138 4 = (w : Int)) (hw : okW T (w : Int)) (hr : MRd M w A) (h15 : A 0 8 ≤ 15) {a b : Int} : b_X13_readVoice_74 T a b M = some (0, M) := by
  unfold b_X13_readVoice_74
  split
  · exact c_bind (o_flaw h5 1) (o_voice85 h5 h4 hw hr h15)
  · exact o_voice85 h5 h4 hw hr h15
theorem m_kind (h : KM B n M p) {k0 k1 k2 k3 k4 : Option (Int × aM)} : ((f_X13_isWord T 2000040 M).bind fun x10 => if x10 = 0 then (f_X13_isWord T 2000041 M).bind fun x13 => if x13 = 0 then (f_X13_isWord T 2000042 M).bind fun x16 => if x16 = 0 then (f_X13_isWord T 2000043 M).bind fun x19 => if x19 = 0 then k4 else k3 else k2 else k1 else k0) = (if sKd B n p = 0 then k0 else if sKd B n p = 1 then k1 else if sKd B n p = 2 then k2 else if sKd B n p = 3 then k3 else k4) := by
  have h20 := h.wrd (T := T) (k := 40) (v := 2000040) (by decide) rfl
  have h21 := h.wrd (T := T) (k := 41) (v := 2000041) (by decide) rfl
  have h22 := h.wrd (T := T) (k := 42) (v := 2000042) (by decide) rfl
  have h23 := h.wrd (T := T) (k := 43) (v := 2000043) (by decide) rfl
  rw [isw_eq pkd_t.2.2.2.2.2.2.2.2.1] at h20
  rw [isw_eq pkd_t.2.2.2.2.2.2.2.2.2.1] at h21
  rw [isw_eq pkd_t.2.2.2.2.2.2.2.2.2.2.1] at h22
  rw [isw_eq pkd_t.2.2.2.2.2.2.2.2.2.2.2.1] at h23
  unfold sKd
  cases e0 : isw B n 20 p
  · rw [e0] at h20
    refine c_bind h20 (c_pos rfl ?_)
    cases e1 : isw B n 21 p
    · rw [e1] at h21
      refine c_bind h21 (c_pos rfl ?_)
      cases e2 : isw B n 22 p
      · rw [e2] at h22
        refine c_bind h22 (c_pos rfl ?_)
        cases e3 : isw B n 23 p
        · rw [e3] at h23
          exact c_bind h23 (c_pos rfl rfl)
        · rw [e3] at h23
          exact c_bind h23 (c_neg (by decide) rfl)
      · rw [e2] at h22
        exact c_bind h22 (c_neg (by decide) rfl)
    · rw [e1] at h21
      exact c_bind h21 (c_neg (by decide) rfl)
  · rw [e0] at h20
    exact c_bind h20 (c_neg (by decide) rfl)
theorem sKd_1 (h : sKd B n p ≠ 4) : kS B n p = 1 := by
  unfold sKd at h
  split at h
  · rename_i e; exact isw_4 e
  · split at h
    · rename_i e; exact isw_4 e
    · split at h
      · rename_i e; exact isw_4 e
      · split at h
        · rename_i e; exact isw_4 e
        · exact absurd rfl h
theorem ml3 (hn : n ≤ 900) (hA : WFd A) (h : KM B n M p) (h4 : M 138 4 = (w : Int)) (hw : okW T (w : Int)) (hr : MRd M w A) (hk : kS B n p = 1) : mLn B n w (f_X13_readVoice T M) M ((sBg B n A (A 0 3) 3 p).bind fun p1 => sl3 B n A p1) := by
  have hge := okw_ge hw
  have h15 := names_le hA
  have c7 : M w 7 = (A 0 3 : Int) := hr.2.1 3 (by decide) (by decide)
  unfold f_X13_readVoice
  rw [h4, Int.toNat_natCast, c7]
  have s1 := m_begins (T := T) hn h h4 hw hr hA.1.1 hk (c := A 0 3) (r := 3) hA.1.2.2.2.1 rfl rfl
  cases e1 : sBg B n A (A 0 3) 3 p with
  | error e =>
    rw [e1] at s1
    obtain ⟨M', q1, q2⟩ := s1
    have o4 := (q2.2.2.2.1 4 (by decide)).trans h4
    have or := hr.cong hge q2.2.2.2.2
    exact ⟨M', c_ite hw (c_bind q1 (c_bind (o_fresh q2.1 o4 hw or h15) (c_bind (o_isWord q2.1 (by decide)) (c_pos rfl (c_bind (o_isWord q2.1 (by decide)) (c_pos rfl (c_bind (o_isWord q2.1 (by decide)) (c_pos rfl (c_bind (o_isWord q2.1 (by decide)) (c_pos rfl (o_voice74 q2.1 o4 hw or h15))))))))))), q2⟩
  | ok p1 =>
    rw [e1] at s1
    obtain ⟨M1, q1, q2, q3⟩ := s1
    obtain ⟨h3, h0, -⟩ := sBg_ok hA.1.1 e1
    have hn15 := names_15 hA (j := 3) (by decide) h3
    have w41 : M1 138 4 = (w : Int) := (q3.1 4 (by decide)).trans h4
    have hr1 := hr.cong hge q3.2
    have s2 := m_fresh (T := T) hn q2 w41 hw hr1 h15
    show mLn B n w _ M (sl3 B n A p1)
    unfold sl3
    cases e2 : sNw B n A p1 with
    | error e =>
      rw [e2] at s2
      obtain ⟨x, M', r1, r2⟩ := s2
      have o4 := (r2.2.2.2.1 4 (by decide)).trans w41
      have or := hr1.cong hge r2.2.2.2.2
      exact ⟨M', c_ite hw (c_bind q1 (c_bind r1 (c_bind (o_isWord r2.1 (by decide)) (c_pos rfl (c_bind (o_isWord r2.1 (by decide)) (c_pos rfl (c_bind (o_isWord r2.1 (by decide)) (c_pos rfl (c_bind (o_isWord r2.1 (by decide)) (c_pos rfl (o_voice74 r2.1 o4 hw or h15))))))))))), r2.of q3.kF⟩
    | ok p2 =>
      rw [e2] at s2
      obtain ⟨M2, r1, r2, r3⟩ := s2
      have k2 : kT M M2 := q3.trans r3
      have w42 : M2 138 4 = (w : Int) := (k2.1 4 (by decide)).trans h4
      have hr2 := hr.cong hge k2.2
      have hkd := fun k0 k1 k2 k3 k4 => m_kind (T := T) r2 (k0 := k0) (k1 := k1) (k2 := k2) (k3 := k3) (k4 := k4)
      have hle4 := sKd_le (B := B) (n := n) (p := p2)
      have pre : ∀ y, b_X13_readVoice_74 T (kW B n p1 : Int) (if sKd B n p2 = 4 then -1 else (sKd B n p2 : Int)) M2 = y → (if okW T (w : Int) then (f_X13_lineBegins T (A 0 3 : Int) 3 M).bind (fun x2 => (f_X13_readFresh T x2.2).bind fun x6 => (f_X13_isWord T 2000040 x6.2).bind fun x10 => if x10 = 0 then (f_X13_isWord T 2000041 x6.2).bind fun x13 => if x13 = 0 then (f_X13_isWord T 2000042 x6.2).bind fun x16 => if x16 = 0 then (f_X13_isWord T 2000043 x6.2).bind fun x19 => if x19 = 0 then b_X13_readVoice_74 T x6.1 (-1) x6.2 else b_X13_readVoice_74 T x6.1 3 x6.2 else b_X13_readVoice_74 T x6.1 2 x6.2 else b_X13_readVoice_74 T x6.1 1 x6.2 else b_X13_readVoice_74 T x6.1 0 x6.2) else none) = y := by
        intro y hy
        refine c_ite hw (c_bind q1 (c_bind r1 ((hkd _ _ _ _ _).trans ?_)))
        rcases (show sKd B n p2 = 0 ∨ sKd B n p2 = 1 ∨ sKd B n p2 = 2 ∨ sKd B n p2 = 3 ∨ sKd B n p2 = 4 by omega) with e | e | e | e | e <;> rw [e] at hy ⊢ <;> exact hy
      show mLn B n w _ M (if sKd B n p2 = 4 then _ else _)
      by_cases hk4 : sKd B n p2 = 4
      · rw [if_pos hk4]
        rw [if_pos hk4] at pre
        obtain ⟨M', t1, t2⟩ := m_flaw (T := T) r2 1
        refine ⟨M', pre _ ?_, t2.of k2.kF⟩
        unfold b_X13_readVoice_74
        exact c_pos rfl (c_bind t1 (o_voice85 t2.1 ((t2.2.2.2.1 4 (by decide)).trans w42) hw (hr2.cong hge t2.2.2.2.2) h15))
      · rw [if_neg hk4]
        rw [if_neg hk4] at pre
        obtain ⟨M3, t1, t2, t3⟩ := r2.on (T := T) hn (by rw [sKd_1 hk4]; decide)
        have k3 := k2.trans t3
        have s3 := m_needs (T := T) hn t2 (k := 44) (v := 2000044) (by decide) rfl
        rw [sWd_eq pkd_t.2.2.2.2.2.2.2.2.2.2.2.2.1] at s3
        have pre2 : ∀ y, b_X13_readVoice_85 T (kW B n p1 : Int) (sKd B n p2 : Int) M2 = y → b_X13_readVoice_74 T (kW B n p1 : Int) (sKd B n p2 : Int) M2 = y := fun y hy => by
          unfold b_X13_readVoice_74
          exact c_neg (by omega) hy
        cases e3 : sWd B n 8 (kX B n p2) with
        | error e =>
          rw [e3] at s3
          obtain ⟨M', u1, u2⟩ := s3
          refine ⟨M', pre _ (pre2 _ ?_), u2.of k3.kF⟩
          unfold b_X13_readVoice_85
          exact c_bind t1 (c_bind u1 (c_bind (o_readCave u2.1 ((u2.2.2.2.1 4 (by decide)).trans ((k3.1 4 (by decide)).trans h4)) hw ((hr.cong hge k3.2).cong hge u2.2.2.2.2) h15) (c_pos u2.1 rfl)))
        | ok p3 =>
          rw [e3] at s3
          obtain ⟨M4, u1, u2, u3⟩ := s3
          have k4 := k3.trans u3
          have w44 : M4 138 4 = (w : Int) := (k4.1 4 (by decide)).trans h4
          have s4 := m_readCave (T := T) hn u2 w44 hw (hr.cong hge k4.2) h15
          show mLn B n w _ M ((sCv B n A p3).bind _)
          cases e4 : sCv B n A p3 with
          | error e =>
            rw [e4] at s4
            obtain ⟨M', z1, z2⟩ := s4
            refine ⟨M', pre _ (pre2 _ ?_), z2.of k4.kF⟩
            unfold b_X13_readVoice_85
            exact c_bind t1 (c_bind u1 (c_bind z1 (c_pos z2.1 rfl)))
          | ok c =>
            rw [e4] at s4
            obtain ⟨M5, z1, z2, z3⟩ := s4
            have k5 := k4.trans z3
            have w45 : M5 138 4 = (w : Int) := (k5.1 4 (by decide)).trans h4
            have hr5 := hr.cong hge k5.2
            have d7 : M5 w 7 = (A 0 3 : Int) := hr5.2.1 3 (by decide) (by decide)
            have hnm := m_names (T := T) hw w45 hr5 hn15 (u := kW B n p1) (s := 1) (nb := A 0 3)
            have x4 : nmW M5 w A (kW B n p1) 1 (A 0 3) 138 4 = (w : Int) := by rw [nmW_138 hge (by decide)]; exact w45
            have x7 : nmW M5 w A (kW B n p1) 1 (A 0 3) w 7 = (A 0 3 : Int) := by rw [nmW_w hge (by decide)]; exact d7
            refine ⟨G3w M5 w A (sKd B n p2) c (kW B n p1), pre _ (pre2 _ ?_), ?_, md3 hr5 h0, k5.kG.kL.trans ((((kL_nm hge).trans (kL_up hge (by omega))).trans (kL_up hge (by omega))).trans (kL_up hge (by omega)))⟩
            · unfold b_X13_readVoice_85
              refine c_bind t1 (c_bind u1 (c_bind z1 (c_neg z2.n5 ?_)))
              show (if okW T (M5 138 4) then (f_X13_names T (kW B n p1 : Int) 1 (M5 (M5 138 4).toNat 7) M5).bind (fun x37 => rV85 T (sKd B n p2 : Int) (c : Int) x37.2) else none) = _
              rw [w45, Int.toNat_natCast, d7]
              refine c_ite hw (c_bind hnm ?_)
              show rV85 T (sKd B n p2 : Int) (c : Int) (nmW M5 w A (kW B n p1) 1 (A 0 3)) = _
              unfold rV85
              generalize hN : nmW M5 w A (kW B n p1) 1 (A 0 3) = N at x4 x7
              rw [x4, Int.toNat_natCast, x7, Int.toNat_natCast]
              have f4 : aup N (w + 4) (A 0 3) (sKd B n p2 : Int) 138 4 = (w : Int) := by rw [aup_nc (by omega)]; exact x4
              have f7 : aup N (w + 4) (A 0 3) (sKd B n p2 : Int) w 7 = (A 0 3 : Int) := by rw [aup_nc (by omega)]; exact x7
              refine c_ite hw (c_ite (by omega) (c_some ?_))
              rw [f4, Int.toNat_natCast, f7, Int.toNat_natCast]
              have g4 : aup (aup N (w + 4) (A 0 3) (sKd B n p2 : Int)) (w + 5) (A 0 3) (c : Int) 138 4 = (w : Int) := by rw [aup_nc (by omega)]; exact f4
              have g7 : aup (aup N (w + 4) (A 0 3) (sKd B n p2 : Int)) (w + 5) (A 0 3) (c : Int) w 7 = (A 0 3 : Int) := by rw [aup_nc (by omega)]; exact f7
              refine c_ite hw (c_ite (by omega) (c_some ?_))
              rw [g4, Int.toNat_natCast, g7]
              refine c_ite hw (c_ite (by omega) (c_some ?_))
              unfold G3w
              rw [hN]
            · exact (((z2.cong (nmW_138 hge (by decide)) (nmW_138 hge (by decide))).up (by omega)).up (by omega)).up hge
def rF (T : Nat) (at' : Int) (M : aM) : Option (Int × aM) := if okW T (M 138 4) then
 if 0 ≤ (M (M 138 4).toNat 8) ∧ (M (M 138 4).toNat 8) < 4 then
 (some (aup M ((M 138 4).toNat + 6) ((M (M 138 4).toNat 8)).toNat at')).bind fun m26 =>
 if okW T (m26 138 4) then
 if aIn ((m26 (m26 138 4).toNat 8) + 1) then
 (some (aup m26 (m26 138 4).toNat 8 ((m26 (m26 138 4).toNat 8) + 1))).bind fun m30 =>
 some (0, m30) else none else none else none else none
theorem ml4 (hn : n ≤ 900) (hA : WFd A) (h : KM B n M p) (h4 : M 138 4 = (w : Int)) (hw : okW T (w : Int)) (hr : MRd M w A) (hk : kS B n p = 1) : mLn B n w (f_X13_readFolk T M) M ((sBg B n A (A 0 4) 4 p).bind fun p1 => sl4 B n A p1) := by
  have hge := okw_ge hw
  have h15 := names_le hA
  have c7 : M w 8 = (A 0 4 : Int) := hr.2.1 4 (by decide) (by decide)
  unfold f_X13_readFolk
  rw [h4, Int.toNat_natCast, c7]
  have s1 := m_begins (T := T) hn h h4 hw hr hA.1.1 hk (c := A 0 4) (r := 4) hA.1.2.2.2.2.1 rfl rfl
  cases e1 : sBg B n A (A 0 4) 4 p with
  | error e =>
    rw [e1] at s1
    obtain ⟨M', q1, q2⟩ := s1
    have o4 := (q2.2.2.2.1 4 (by decide)).trans h4
    have or := hr.cong hge q2.2.2.2.2
    exact ⟨M', c_ite hw (c_bind q1 (c_bind (o_fresh q2.1 o4 hw or h15) (c_bind (o_needs q2.1 (by decide)) (c_bind (o_readCave q2.1 o4 hw or h15) (c_pos q2.1 rfl))))), q2⟩
  | ok p1 =>
    rw [e1] at s1
    obtain ⟨M1, q1, q2, q3⟩ := s1
    obtain ⟨h3, h0, -⟩ := sBg_ok hA.1.1 e1
    have hn15 := names_15 hA (j := 4) (by decide) h3
    have w41 : M1 138 4 = (w : Int) := (q3.1 4 (by decide)).trans h4
    have hr1 := hr.cong hge q3.2
    have s2 := m_fresh (T := T) hn q2 w41 hw hr1 h15
    show mLn B n w _ M (sl4 B n A p1)
    unfold sl4
    cases e2 : sNw B n A p1 with
    | error e =>
      rw [e2] at s2
      obtain ⟨x, M', r1, r2⟩ := s2
      have o4 := (r2.2.2.2.1 4 (by decide)).trans w41
      have or := hr1.cong hge r2.2.2.2.2
      exact ⟨M', c_ite hw (c_bind q1 (c_bind r1 (c_bind (o_needs r2.1 (by decide)) (c_bind (o_readCave r2.1 o4 hw or h15) (c_pos r2.1 rfl))))), r2.of q3.kF⟩
    | ok p2 =>
      rw [e2] at s2
      obtain ⟨M2, r1, r2, r3⟩ := s2
      have k2 : kT M M2 := q3.trans r3
      have s3 := m_needs (T := T) hn r2 (k := 44) (v := 2000044) (by decide) rfl
      rw [sWd_eq pkd_t.2.2.2.2.2.2.2.2.2.2.2.2.1] at s3
      show mLn B n w _ M ((sWd B n 8 p2).bind _)
      cases e3 : sWd B n 8 p2 with
      | error e =>
        rw [e3] at s3
        obtain ⟨M', u1, u2⟩ := s3
        exact ⟨M', c_ite hw (c_bind q1 (c_bind r1 (c_bind u1 (c_bind (o_readCave u2.1 ((u2.2.2.2.1 4 (by decide)).trans ((k2.1 4 (by decide)).trans h4)) hw ((hr.cong hge k2.2).cong hge u2.2.2.2.2) h15) (c_pos u2.1 rfl))))), u2.of k2.kF⟩
      | ok p3 =>
        rw [e3] at s3
        obtain ⟨M4, u1, u2, u3⟩ := s3
        have k4 := k2.trans u3
        have w44 : M4 138 4 = (w : Int) := (k4.1 4 (by decide)).trans h4
        have s4 := m_readCave (T := T) hn u2 w44 hw (hr.cong hge k4.2) h15
        show mLn B n w _ M ((sCv B n A p3).bind _)
        cases e4 : sCv B n A p3 with
        | error e =>
          rw [e4] at s4
          obtain ⟨M', z1, z2⟩ := s4
          exact ⟨M', c_ite hw (c_bind q1 (c_bind r1 (c_bind u1 (c_bind z1 (c_pos z2.1 rfl))))), z2.of k4.kF⟩
        | ok c =>
          rw [e4] at s4
          obtain ⟨M5, z1, z2, z3⟩ := s4
          have k5 := k4.trans z3
          have w45 : M5 138 4 = (w : Int) := (k5.1 4 (by decide)).trans h4
          have hr5 := hr.cong hge k5.2
          have d7 : M5 w 8 = (A 0 4 : Int) := hr5.2.1 4 (by decide) (by decide)
          have hnm := m_names (T := T) hw w45 hr5 hn15 (u := kW B n p1) (s := 2) (nb := A 0 4)
          have x4 : nmW M5 w A (kW B n p1) 2 (A 0 4) 138 4 = (w : Int) := by rw [nmW_138 hge (by decide)]; exact w45
          have x7 : nmW M5 w A (kW B n p1) 2 (A 0 4) w 8 = (A 0 4 : Int) := by rw [nmW_w hge (by decide)]; exact d7
          refine ⟨G4w M5 w A c (kW B n p1), ?_, ?_, md4 hr5 h0, k5.kG.kL.trans (((kL_nm hge).trans (kL_up hge (by omega))).trans (kL_up hge (by omega)))⟩
          · refine c_ite hw (c_bind q1 (c_bind r1 (c_bind u1 (c_bind z1 (c_neg z2.n5 ?_)))))
            show (if okW T (M5 138 4) then (f_X13_names T (kW B n p1 : Int) 2 (M5 (M5 138 4).toNat 8) M5).bind (fun x37 => rF T (c : Int) x37.2) else none) = _
            rw [w45, Int.toNat_natCast, d7]
            refine c_ite hw (c_bind hnm ?_)
            show rF T (c : Int) (nmW M5 w A (kW B n p1) 2 (A 0 4)) = _
            unfold rF
            generalize hN : nmW M5 w A (kW B n p1) 2 (A 0 4) = N at x4 x7
            rw [x4, Int.toNat_natCast, x7, Int.toNat_natCast]
            have f4 : aup N (w + 6) (A 0 4) (c : Int) 138 4 = (w : Int) := by rw [aup_nc (by omega)]; exact x4
            have f7 : aup N (w + 6) (A 0 4) (c : Int) w 8 = (A 0 4 : Int) := by rw [aup_nc (by omega)]; exact x7
            refine c_ite hw (c_ite (by omega) (c_some ?_))
            rw [f4, Int.toNat_natCast, f7]
            refine c_ite hw (c_ite (by omega) (c_some ?_))
            unfold G4w
            rw [hN]
          · exact ((z2.cong (nmW_138 hge (by decide)) (nmW_138 hge (by decide))).up (by omega)).up hge
def rE41 (T : Nat) (v1 x : Int) (M : aM) : Option (Int × aM) := if okW T (M 138 4) then
 if 0 ≤ (M (M 138 4).toNat 9) ∧ (M (M 138 4).toNat 9) < 4 then
 (some (aup M ((M 138 4).toNat + 7) ((M (M 138 4).toNat 9)).toNat v1)).bind fun m22 =>
 if okW T (m22 138 4) then
 if 0 ≤ (m22 (m22 138 4).toNat 9) ∧ (m22 (m22 138 4).toNat 9) < 4 then
 (some (aup m22 ((m22 138 4).toNat + 8) ((m22 (m22 138 4).toNat 9)).toNat x)).bind fun m26 =>
 if okW T (m26 138 4) then
 if aIn ((m26 (m26 138 4).toNat 9) + 1) then
 (some (aup m26 (m26 138 4).toNat 9 ((m26 (m26 138 4).toNat 9) + 1))).bind fun m30 =>
 some (0, m30) else none else none else none else none else none else none
theorem o_echo41 (h5 : M 138 9 = 5) {a : Int} : b_X13_readEcho_41 T a M = some (0, M) := by
  unfold b_X13_readEcho_41
  exact c_bind (o_goesOn h5) (c_bind (o_readPart h5 (by decide)) (c_pos h5 rfl))
theorem ml5 (hn : n ≤ 900) (hA : WFd A) (h : KM B n M p) (h4 : M 138 4 = (w : Int)) (hw : okW T (w : Int)) (hr : MRd M w A) (hk : kS B n p = 1) : mLn B n w (f_X13_readEcho T M) M ((sBg B n A (A 0 5) 4 p).bind fun p1 => sl5 B n A p1) := by
  have hge := okw_ge hw
  have h15 := names_le hA
  have c7 : M w 9 = (A 0 5 : Int) := hr.2.1 5 (by decide) (by decide)
  unfold f_X13_readEcho
  rw [h4, Int.toNat_natCast, c7]
  have s1 := m_begins (T := T) hn h h4 hw hr hA.1.1 hk (c := A 0 5) (r := 4) hA.1.2.2.2.2.2.1 rfl rfl
  cases e1 : sBg B n A (A 0 5) 4 p with
  | error e =>
    rw [e1] at s1
    obtain ⟨M', q1, q2⟩ := s1
    have o4 := (q2.2.2.2.1 4 (by decide)).trans h4
    have or := hr.cong hge q2.2.2.2.2
    exact ⟨M', c_ite hw (c_bind q1 (c_bind (o_cave q2.1 o4 hw or h15) (c_pos q2.1 (o_echo41 q2.1)))), q2⟩
  | ok p1 =>
    rw [e1] at s1
    obtain ⟨M1, q1, q2, q3⟩ := s1
    obtain ⟨h3, h0, -⟩ := sBg_ok hA.1.1 e1
    have w41 : M1 138 4 = (w : Int) := (q3.1 4 (by decide)).trans h4
    have hr1 := hr.cong hge q3.2
    have s2 := m_hand (T := T) q2 w41 hw hr1 h15
    show mLn B n w _ M (sl5 B n A p1)
    unfold sl5
    cases e2 : sCv B n A p1 with
    | error e =>
      rw [e2] at s2
      obtain ⟨M', r1, r2⟩ := s2
      exact ⟨M', c_ite hw (c_bind q1 (c_bind r1 (c_pos r2.1 (o_echo41 r2.1)))), r2.of q3.kF⟩
    | ok c =>
      rw [e2] at s2
      have hk1 : kS B n p1 = 1 := by
        unfold sCv at e2
        split at e2
        · rename_i hi; exact isn_1 hi
        · cases e2
      have hec := g_isEchod (T := T) hr1 hA (c := c)
      have pre : ∀ y, (if bI (exb (fun i => decide (A 8 i = c)) (A 0 5)) = 0 then b_X13_readEcho_41 T (c : Int) M1 else (f_X13_flaw T 3 M1).bind fun x36 => b_X13_readEcho_41 T (c : Int) x36.2) = y → (if okW T (w : Int) then (f_X13_lineBegins T (A 0 5 : Int) 4 M).bind (fun x2 => (f_X13_caveAtHand T x2.2).bind fun x6 => if (x6.2 138 9) = 5 then b_X13_readEcho_41 T x6.1 x6.2 else if okW T (x6.2 138 4) then (f_X12_isEcho T (x6.2 138 4).toNat x6.1 x6.2).bind (fun x33 => if x33 = 0 then b_X13_readEcho_41 T x6.1 x6.2 else (f_X13_flaw T 3 x6.2).bind fun x36 => b_X13_readEcho_41 T x6.1 x36.2) else none) else none) = y := by
        intro y hy
        refine c_ite hw (c_bind q1 (c_bind s2 (c_neg q2.n5 ?_)))
        show (if okW T (M1 138 4) then (f_X12_isEcho T (M1 138 4).toNat (c : Int) M1).bind (fun x33 => if x33 = 0 then b_X13_readEcho_41 T (c : Int) M1 else (f_X13_flaw T 3 M1).bind fun x36 => b_X13_readEcho_41 T (c : Int) x36.2) else none) = y
        rw [w41, Int.toNat_natCast]
        exact c_ite hw (c_bind hec hy)
      show mLn B n w _ M (if exb (fun i => decide (A 8 i = c)) (A 0 5) = true then _ else _)
      cases he : exb (fun i => decide (A 8 i = c)) (A 0 5)
      · rw [if_neg Bool.false_ne_true]
        rw [he] at pre
        obtain ⟨M2, r1, r2, r3⟩ := q2.on (T := T) hn (by rw [hk1]; decide)
        have k2 := q3.trans r3
        have s3 := m_part (T := T) hn r2 (k := 45) (lo := 0) (hi := 400) (v := 2000045) (a := 0) (b := 400) (by decide) rfl rfl rfl
        rw [sNu_eq pkd_t.2.2.2.2.2.2.2.2.2.2.2.2.2.1] at s3
        cases e3 : sNu B n 9 0 400 (kX B n p1) with
        | error e =>
          rw [e3] at s3
          obtain ⟨x, M', u1, u2⟩ := s3
          refine ⟨M', pre _ (c_pos rfl ?_), u2.of k2.kF⟩
          unfold b_X13_readEcho_41
          exact c_bind r1 (c_bind u1 (c_pos u2.1 rfl))
        | ok x =>
          rw [e3] at s3
          obtain ⟨M5, z1, z2, z3⟩ := s3
          have k5 := k2.trans z3
          have w45 : M5 138 4 = (w : Int) := (k5.1 4 (by decide)).trans h4
          have hr5 := hr.cong hge k5.2
          have x7 : M5 w 9 = (A 0 5 : Int) := hr5.2.1 5 (by decide) (by decide)
          refine ⟨G5w M5 w A c x.1, pre _ (c_pos rfl ?_), ((z2.up (by omega)).up (by omega)).up hge, md5 hr5 h0, k5.kG.kL.trans (((kL_up hge (by omega)).trans (kL_up hge (by omega))).trans (kL_up hge (by omega)))⟩
          unfold b_X13_readEcho_41
          refine c_bind r1 (c_bind z1 (c_neg z2.n5 ?_))
          show rE41 T (c : Int) (x.1 : Int) M5 = _
          unfold rE41
          rw [w45, Int.toNat_natCast, x7, Int.toNat_natCast]
          have f4 : aup M5 (w + 7) (A 0 5) (c : Int) 138 4 = (w : Int) := by rw [aup_nc (by omega)]; exact w45
          have f7 : aup M5 (w + 7) (A 0 5) (c : Int) w 9 = (A 0 5 : Int) := by rw [aup_nc (by omega)]; exact x7
          refine c_ite hw (c_ite (by omega) (c_some ?_))
          rw [f4, Int.toNat_natCast, f7, Int.toNat_natCast]
          have g4 : aup (aup M5 (w + 7) (A 0 5) (c : Int)) (w + 8) (A 0 5) (x.1 : Int) 138 4 = (w : Int) := by rw [aup_nc (by omega)]; exact f4
          have g7 : aup (aup M5 (w + 7) (A 0 5) (c : Int)) (w + 8) (A 0 5) (x.1 : Int) w 9 = (A 0 5 : Int) := by rw [aup_nc (by omega)]; exact f7
          refine c_ite hw (c_ite (by omega) (c_some ?_))
          rw [g4, Int.toNat_natCast, g7]
          exact c_ite hw (c_ite (by omega) (c_some rfl))
      · rw [if_pos rfl]
        rw [he] at pre
        obtain ⟨M', t1, t2⟩ := m_flaw (T := T) q2 3
        exact ⟨M', pre _ (c_neg (by decide) (c_bind t1 (o_echo41 t2.1))), t2.of q3.kF⟩
def rU78 (T : Nat) (v2 : Int) (M : aM) : Option (Int × aM) := if okW T (M 138 4) then
 if 0 ≤ (M (M 138 4).toNat 10) ∧ (M (M 138 4).toNat 10) < 4 then
 (some (aup M ((M 138 4).toNat + 9) ((M (M 138 4).toNat 10)).toNat v2)).bind fun m22 =>
 if okW T (m22 138 4) then
 if aIn ((m22 (m22 138 4).toNat 10) + 1) then
 (some (aup m22 (m22 138 4).toNat 10 ((m22 (m22 138 4).toNat 10) + 1))).bind fun m26 =>
 some (0, m26) else none else none else none else none
theorem o_un78 (h5 : M 138 9 = 5) {a : Int} : b_X13_readUnsure_78 T a M = some (0, M) := by
  unfold b_X13_readUnsure_78
  exact c_bind (o_goesOn h5) (c_pos h5 rfl)
theorem o_un59 (h5 : M 138 9 = 5) {a : Int} : b_X13_readUnsure_59 T a M = some (0, M) := by
  unfold b_X13_readUnsure_59
  exact c_pos h5 (o_un78 h5)
/-- what is behind two caves, of an unsure way -/
def sU (B : Nat → Int) (n : Nat) (A : aA) (a b p : Nat) : Except rE (aA × Nat) := if wy A a b < A 0 2 then (if exb (fun i => decide (A 10 i = wy A a b)) (A 0 6) = true then .error (3, p) else .ok (L6 A (wy A a b), kX B n p)) else .error (7, p)
theorem sl6_tw : sl6 B n A p = (sTw B n A p).bind fun x => sU B n A x.1 x.2 (kX B n p) := by
  unfold sl6 sTw
  cases sCv B n A p with
  | error e => rfl
  | ok a =>
    show (sCv B n A (kX B n p)).bind _ = ((sCv B n A (kX B n p)).bind _ : Except rE (Nat × Nat)).bind _
    cases sCv B n A (kX B n p) with
    | error e => rfl
    | ok b =>
      show (if b = a then _ else _) = ((if b = a then Except.error (3, kX B n p) else Except.ok (a, b) : Except rE (Nat × Nat))).bind _
      by_cases hba : b = a
      · rw [if_pos hba, if_pos hba]; rfl
      · rw [if_neg hba, if_neg hba]; rfl
theorem ml6 (hn : n ≤ 900) (hA : WFd A) (h : KM B n M p) (h4 : M 138 4 = (w : Int)) (hw : okW T (w : Int)) (hr : MRd M w A) (hk : kS B n p = 1) : mLn B n w (f_X13_readUnsure T M) M ((sBg B n A (A 0 6) 4 p).bind fun p1 => sl6 B n A p1) := by
  have hge := okw_ge hw
  have h15 := names_le hA
  have c7 : M w 10 = (A 0 6 : Int) := hr.2.1 6 (by decide) (by decide)
  unfold f_X13_readUnsure
  rw [h4, Int.toNat_natCast, c7]
  have s1 := m_begins (T := T) hn h h4 hw hr hA.1.1 hk (c := A 0 6) (r := 4) hA.1.2.2.2.2.2.2.1 rfl rfl
  -- behind two caves: the way is looked for, come what may
  have tail : ∀ (M2 : aM) (a b : Nat), M2 138 4 = (w : Int) → MRd M2 w A → M2 138 15 = (b : Int) → ∀ y, (if M2 138 9 = 5 then b_X13_readUnsure_59 T (if wy A a b < A 0 2 then (wy A a b : Int) else -1) M2 else if (if wy A a b < A 0 2 then (wy A a b : Int) else -1) = (-1) then b_X13_readUnsure_59 T (if wy A a b < A 0 2 then (wy A a b : Int) else -1) M2 else (f_X12_isUnsure T w (if wy A a b < A 0 2 then (wy A a b : Int) else -1) M2).bind fun x34 => if x34 = 0 then b_X13_readUnsure_59 T (if wy A a b < A 0 2 then (wy A a b : Int) else -1) M2 else (f_X13_flaw T 3 M2).bind fun x37 => b_X13_readUnsure_59 T (if wy A a b < A 0 2 then (wy A a b : Int) else -1) x37.2) = y → (if okW T (M2 138 4) then (f_X12_way T (M2 138 4).toNat (a : Int) (M2 138 15) M2).bind (fun x11 => if (M2 138 9) = 5 then b_X13_readUnsure_59 T x11 M2 else if x11 = (-1) then b_X13_readUnsure_59 T x11 M2 else (f_X12_isUnsure T (M2 138 4).toNat x11 M2).bind fun x34 => if x34 = 0 then b_X13_readUnsure_59 T x11 M2 else (f_X13_flaw T 3 M2).bind fun x37 => b_X13_readUnsure_59 T x11 x37.2) else none) = y := by
    intro M2 a b e4 er e15 y hy
    rw [e4, Int.toNat_natCast, e15]
    exact c_ite hw (c_bind (g_wwd er hA) hy)
  cases e1 : sBg B n A (A 0 6) 4 p with
  | error e =>
    rw [e1] at s1
    obtain ⟨M', q1, q2⟩ := s1
    have o4 := (q2.2.2.2.1 4 (by decide)).trans h4
    have or := hr.cong hge q2.2.2.2.2
    have o9 : aup M' 138 15 0 138 9 = 5 := by rw [aup_ne2 (by decide)]; exact q2.1
    refine ⟨aup M' 138 15 0, c_ite hw (c_bind q1 (c_bind (o_two q2.1 o4 hw or h15) ?_)), q2.up15⟩
    exact tail (aup M' 138 15 0) 0 0 (by rw [aup_ne2 (by decide)]; exact o4) (or.cong hge (fun m hm => aup_nc hm)) aup_at _ (c_pos o9 (o_un59 o9))
  | ok p1 =>
    rw [e1] at s1
    obtain ⟨M1, q1, q2, q3⟩ := s1
    obtain ⟨h3, h0, -⟩ := sBg_ok hA.1.1 e1
    have w41 : M1 138 4 = (w : Int) := (q3.1 4 (by decide)).trans h4
    have hr1 := hr.cong hge q3.2
    have s2 := m_two (T := T) hn q2 w41 hw hr1 h15
    show mLn B n w _ M (sl6 B n A p1)
    rw [sl6_tw]
    cases e2 : sTw B n A p1 with
    | error e =>
      rw [e2] at s2
      obtain ⟨x, M', r1, r2, ⟨z, hz⟩, y, hy⟩ := s2
      subst hy
      refine ⟨M', c_ite hw (c_bind q1 (c_bind r1 ?_)), r2.of q3.kF⟩
      exact tail M' y z ((r2.2.2.2.1 4 (by decide)).trans w41) (hr1.cong hge r2.2.2.2.2) hz _ (c_pos r2.1 (o_un59 r2.1))
    | ok x =>
      rw [e2] at s2
      obtain ⟨M2, r1, r2, r3, r4⟩ := s2
      obtain ⟨ha, hb, hab, hk2⟩ := sTw_ok hA e2
      have k2 : kG M M2 := q3.kG.trans r4
      have w42 : M2 138 4 = (w : Int) := (k2.1 4 (by decide)).trans h4
      have hr2 := hr.cong hge k2.2
      show mLn B n w _ M (sU B n A x.1 x.2 (kX B n p1))
      unfold sU
      have tl := tail M2 x.1 x.2 w42 hr2 r3
      by_cases hwy : wy A x.1 x.2 < A 0 2
      · rw [if_pos hwy]
        rw [if_pos hwy] at tl
        have hun := g_isUnd (T := T) hr2 hA (c := wy A x.1 x.2)
        cases hu : exb (fun i => decide (A 10 i = wy A x.1 x.2)) (A 0 6)
        · rw [if_neg Bool.false_ne_true]
          rw [hu] at hun
          obtain ⟨M5, z1, z2, z3⟩ := r2.on (T := T) hn (by rw [hk2]; decide)
          have k5 := k2.trans z3.kG
          have w45 : M5 138 4 = (w : Int) := (k5.1 4 (by decide)).trans h4
          have hr5 := hr.cong hge k5.2
          have x7 : M5 w 10 = (A 0 6 : Int) := hr5.2.1 6 (by decide) (by decide)
          refine ⟨G6w M5 w A (wy A x.1 x.2), c_ite hw (c_bind q1 (c_bind r1 ?_)), (z2.up (by omega)).up hge, md6 hr5 h0, k5.kL.trans ((kL_up hge (by omega)).trans (kL_up hge (by omega)))⟩
          refine tl _ (c_neg r2.n5 (c_neg (by omega) (c_bind hun (c_pos rfl ?_))))
          unfold b_X13_readUnsure_59
          refine c_neg r2.n5 (c_neg (by omega) ?_)
          unfold b_X13_readUnsure_78
          refine c_bind z1 (c_neg z2.n5 ?_)
          show rU78 T (wy A x.1 x.2 : Int) M5 = _
          unfold rU78
          rw [w45, Int.toNat_natCast, x7, Int.toNat_natCast]
          have f4 : aup M5 (w + 9) (A 0 6) (wy A x.1 x.2 : Int) 138 4 = (w : Int) := by rw [aup_nc (by omega)]; exact w45
          have f7 : aup M5 (w + 9) (A 0 6) (wy A x.1 x.2 : Int) w 10 = (A 0 6 : Int) := by rw [aup_nc (by omega)]; exact x7
          refine c_ite hw (c_ite (by omega) (c_some ?_))
          rw [f4, Int.toNat_natCast, f7]
          exact c_ite hw (c_ite (by omega) (c_some rfl))
        · rw [if_pos rfl]
          rw [hu] at hun
          obtain ⟨M', t1, t2⟩ := m_flaw (T := T) r2 3
          refine ⟨M', c_ite hw (c_bind q1 (c_bind r1 ?_)), t2.of k2.kF⟩
          exact tl _ (c_neg r2.n5 (c_neg (by omega) (c_bind hun (c_neg (by decide) (c_bind t1 (o_un59 t2.1))))))
      · rw [if_neg hwy]
        rw [if_neg hwy] at tl
        obtain ⟨M', t1, t2⟩ := m_flaw (T := T) r2 7
        refine ⟨M', c_ite hw (c_bind q1 (c_bind r1 ?_)), t2.of k2.kF⟩
        refine tl _ (c_neg r2.n5 (c_pos rfl ?_))
        unfold b_X13_readUnsure_59
        exact c_neg r2.n5 (c_pos rfl (c_bind t1 (o_un78 t2.1)))
def rT48 (T : Nat) (v1 v2 : Int) (M : aM) : Option (Int × aM) := if okW T (M 138 4) then
 if 0 ≤ (M (M 138 4).toNat 11) ∧ (M (M 138 4).toNat 11) < 5 then
 (some (aup M ((M 138 4).toNat + 10) ((M (M 138 4).toNat 11)).toNat v1)).bind fun m24 =>
 if okW T (m24 138 4) then
 if 0 ≤ (m24 (m24 138 4).toNat 11) ∧ (m24 (m24 138 4).toNat 11) < 5 then
 (some (aup m24 ((m24 138 4).toNat + 11) ((m24 (m24 138 4).toNat 11)).toNat (m24 138 15))).bind fun m28 =>
 if okW T (m28 138 4) then
 if v2 = 0 then
 (some (aup m28 (m28 138 4).toNat 12 (aor (m28 (m28 138 4).toNat 12) 0))).bind fun m32 =>
 if okW T (m32 138 4) then
 if aIn ((m32 (m32 138 4).toNat 11) + 1) then
 (some (aup m32 (m32 138 4).toNat 11 ((m32 (m32 138 4).toNat 11) + 1))).bind fun m36 =>
 some (0, m36) else none else none else
 (some (aup m28 (m28 138 4).toNat 12 (aor (m28 (m28 138 4).toNat 12) (ashl 1 (m28 (m28 138 4).toNat 11))))).bind fun m38 =>
 if okW T (m38 138 4) then
 if aIn ((m38 (m38 138 4).toNat 11) + 1) then
 (some (aup m38 (m38 138 4).toNat 11 ((m38 (m38 138 4).toNat 11) + 1))).bind fun m42 =>
 some (0, m42) else none else none else none else none else none else none else none
theorem o_talk48 (h5 : M 138 9 = 5) {a b : Int} : b_X13_readTalk_48 T a b M = some (0, M) := by
  unfold b_X13_readTalk_48
  exact c_bind (o_goesOn h5) (c_pos h5 rfl)
theorem m_talk48 (hn : n ≤ 900) (hA : WFd A) (h : KM B n M p) (h4 : M 138 4 = (w : Int)) (hw : okW T (w : Int)) (hr : MRd M w A) (hk : kS B n p = 1) (h0 : A 0 0 = 1) (h10 : A 0 7 < 5) {a b : Nat} (hb : M 138 15 = (b : Int)) (hd : Bool) : ∃ M', b_X13_readTalk_48 T (a : Int) (bI hd) M = some (0, M') ∧ KM B n M' (kX B n p) ∧ MRd M' w (L7 A a b (if hd = true then A 1 5 ||| 2 ^ A 0 7 else A 1 5)) ∧ kL w M M' := by
  have hge := okw_ge hw
  have hlt : A 1 5 < 32 := hA.2.1.2.2.2.2.2.2
  obtain ⟨M1, q1, q2, q3⟩ := h.on (T := T) hn (by rw [hk]; decide)
  have w4 : M1 138 4 = (w : Int) := (q3.1 4 (by decide)).trans h4
  have w15 : M1 138 15 = (b : Int) := (q3.1 15 (by decide)).trans hb
  have hr1 := hr.cong hge q3.2
  have c5 : M1 w 11 = (A 0 7 : Int) := hr1.2.1 7 (by decide) (by decide)
  have c6 : M1 w 12 = (A 1 5 : Int) := hr1.2.2.1.2.2
  refine ⟨G7w M1 w A a b (if hd = true then A 1 5 ||| 2 ^ A 0 7 else A 1 5), ?_, (((q2.up (by omega)).up (by omega)).up hge).up hge, md7 hr1 h0, q3.kG.kL.trans ((((kL_up hge (by omega)).trans (kL_up hge (by omega))).trans (kL_up hge (by omega))).trans (kL_up hge (by omega)))⟩
  unfold b_X13_readTalk_48
  refine c_bind q1 (c_neg q2.n5 ?_)
  show rT48 T (a : Int) (bI hd) M1 = _
  unfold rT48
  rw [w4, Int.toNat_natCast, c5, Int.toNat_natCast]
  have f4 : aup M1 (w + 10) (A 0 7) (a : Int) 138 4 = (w : Int) := by rw [aup_nc (by omega)]; exact w4
  have f15 : aup M1 (w + 10) (A 0 7) (a : Int) 138 15 = (b : Int) := by rw [aup_nc (by omega)]; exact w15
  have f5 : aup M1 (w + 10) (A 0 7) (a : Int) w 11 = (A 0 7 : Int) := by rw [aup_nc (by omega)]; exact c5
  have f6 : aup M1 (w + 10) (A 0 7) (a : Int) w 12 = (A 1 5 : Int) := by rw [aup_nc (by omega)]; exact c6
  refine c_ite hw (c_ite (by omega) (c_some ?_))
  rw [f4, Int.toNat_natCast, f5, Int.toNat_natCast, f15]
  have g4 : aup (aup M1 (w + 10) (A 0 7) (a : Int)) (w + 11) (A 0 7) (b : Int) 138 4 = (w : Int) := by rw [aup_nc (by omega)]; exact f4
  have g5 : aup (aup M1 (w + 10) (A 0 7) (a : Int)) (w + 11) (A 0 7) (b : Int) w 11 = (A 0 7 : Int) := by rw [aup_nc (by omega)]; exact f5
  have g6 : aup (aup M1 (w + 10) (A 0 7) (a : Int)) (w + 11) (A 0 7) (b : Int) w 12 = (A 1 5 : Int) := by rw [aup_nc (by omega)]; exact f6
  refine c_ite hw (c_ite (by omega) (c_some ?_))
  rw [g4, Int.toNat_natCast, g6, g5]
  have k4 : ∀ m : Int, aup (aup (aup M1 (w + 10) (A 0 7) (a : Int)) (w + 11) (A 0 7) (b : Int)) w 12 m 138 4 = (w : Int) := fun m => by rw [aup_nc (by omega)]; exact g4
  have k5 : ∀ m : Int, aup (aup (aup M1 (w + 10) (A 0 7) (a : Int)) (w + 11) (A 0 7) (b : Int)) w 12 m w 11 = (A 0 7 : Int) := fun m => by rw [aup_ne2 (by decide)]; exact g5
  refine c_ite hw ?_
  cases hd
  · rw [if_neg Bool.false_ne_true]
    refine c_pos rfl (c_some ?_)
    rw [aor_0 (by omega), k4, Int.toNat_natCast, k5]
    exact c_ite hw (c_ite (by omega) (c_some rfl))
  · rw [if_pos rfl]
    refine c_neg (by decide) (c_some ?_)
    rw [ashl_one _ (by omega), aor_nat (by omega) (Nat.pow_lt_pow_right (a := 2) (n := 31) (by decide) (by omega)), k4, Int.toNat_natCast, k5]
    exact c_ite hw (c_ite (by omega) (c_some rfl))
/-- what is behind two caves, of talk -/
def sT (B : Nat → Int) (n : Nat) (A : aA) (a b p : Nat) : Except rE (aA × Nat) := if isw B n 10 p = true then .ok (L7 A a b (A 1 5 ||| 2 ^ A 0 7), kX B n p) else if isw B n 11 p = true then .ok (L7 A a b (A 1 5), kX B n p) else .error (1, p)
theorem sl7_tw : sl7 B n A p = (sTw B n A p).bind fun x => sT B n A x.1 x.2 (kX B n (kX B n p)) := by
  unfold sl7 sTw
  cases sCv B n A p with
  | error e => rfl
  | ok a =>
    show (sCv B n A (kX B n p)).bind _ = ((sCv B n A (kX B n p)).bind _ : Except rE (Nat × Nat)).bind _
    cases sCv B n A (kX B n p) with
    | error e => rfl
    | ok b =>
      show (if b = a then _ else _) = ((if b = a then Except.error (3, kX B n p) else Except.ok (a, b) : Except rE (Nat × Nat))).bind _
      by_cases hba : b = a
      · rw [if_pos hba, if_pos hba]; rfl
      · rw [if_neg hba, if_neg hba]; rfl
theorem ml7 (hn : n ≤ 900) (hA : WFd A) (h : KM B n M p) (h4 : M 138 4 = (w : Int)) (hw : okW T (w : Int)) (hr : MRd M w A) (hk : kS B n p = 1) : mLn B n w (f_X13_readTalk T M) M ((sBg B n A (A 0 7) 5 p).bind fun p1 => sl7 B n A p1) := by
  have hge := okw_ge hw
  have h15 := names_le hA
  have c7 : M w 11 = (A 0 7 : Int) := hr.2.1 7 (by decide) (by decide)
  unfold f_X13_readTalk
  rw [h4, Int.toNat_natCast, c7]
  have s1 := m_begins (T := T) hn h h4 hw hr hA.1.1 hk (c := A 0 7) (r := 5) hA.1.2.2.2.2.2.2.2 rfl rfl
  cases e1 : sBg B n A (A 0 7) 5 p with
  | error e =>
    rw [e1] at s1
    obtain ⟨M', q1, q2⟩ := s1
    have o9 : aup M' 138 15 0 138 9 = 5 := by rw [aup_ne2 (by decide)]; exact q2.1
    exact ⟨aup M' 138 15 0, c_ite hw (c_bind q1 (c_bind (o_two q2.1 ((q2.2.2.2.1 4 (by decide)).trans h4) hw (hr.cong hge q2.2.2.2.2) h15) (c_bind (o_goesOn o9) (c_bind (o_isWord o9 (by decide)) (c_pos rfl (c_bind (o_isWord o9 (by decide)) (c_pos rfl (c_bind (o_flaw o9 1) (o_talk48 o9))))))))), q2.up15⟩
  | ok p1 =>
    rw [e1] at s1
    obtain ⟨M1, q1, q2, q3⟩ := s1
    obtain ⟨h10, h0, -⟩ := sBg_ok hA.1.1 e1
    have w41 : M1 138 4 = (w : Int) := (q3.1 4 (by decide)).trans h4
    have hr1 := hr.cong hge q3.2
    have s2 := m_two (T := T) hn q2 w41 hw hr1 h15
    show mLn B n w _ M (sl7 B n A p1)
    rw [sl7_tw]
    cases e2 : sTw B n A p1 with
    | error e =>
      rw [e2] at s2
      obtain ⟨x, M', r1, r2, -, -⟩ := s2
      exact ⟨M', c_ite hw (c_bind q1 (c_bind r1 (c_bind (o_goesOn r2.1) (c_bind (o_isWord r2.1 (by decide)) (c_pos rfl (c_bind (o_isWord r2.1 (by decide)) (c_pos rfl (c_bind (o_flaw r2.1 1) (o_talk48 r2.1))))))))), r2.of q3.kF⟩
    | ok x =>
      rw [e2] at s2
      obtain ⟨M2, r1, r2, r3, r4⟩ := s2
      obtain ⟨ha, hb, hab, hk2⟩ := sTw_ok hA e2
      obtain ⟨M3, t1, t2, t3⟩ := r2.on (T := T) hn (by rw [hk2]; decide)
      have k3 : kG M M3 := (q3.kG.trans r4).trans t3.kG
      have w43 : M3 138 4 = (w : Int) := (k3.1 4 (by decide)).trans h4
      have x15 : M3 138 15 = (x.2 : Int) := (t3.1 15 (by decide)).trans r3
      have hr3 := hr.cong hge k3.2
      have v6 := t2.wrd (T := T) (k := 46) (v := 2000046) (by decide) rfl
      have v7 := t2.wrd (T := T) (k := 47) (v := 2000047) (by decide) rfl
      rw [isw_eq pkd_t.2.2.2.2.2.2.2.2.2.2.2.2.2.2.1] at v6
      rw [isw_eq pkd_t.2.2.2.2.2.2.2.2.2.2.2.2.2.2.2] at v7
      show mLn B n w _ M (sT B n A x.1 x.2 (kX B n (kX B n p1)))
      unfold sT
      cases hm : isw B n 10 (kX B n (kX B n p1))
      · rw [if_neg Bool.false_ne_true]
        rw [hm] at v6
        cases hd : isw B n 11 (kX B n (kX B n p1))
        · rw [if_neg Bool.false_ne_true]
          rw [hd] at v7
          obtain ⟨M', z1, z2⟩ := m_flaw (T := T) t2 1
          exact ⟨M', c_ite hw (c_bind q1 (c_bind r1 (c_bind t1 (c_bind v6 (c_pos rfl (c_bind v7 (c_pos rfl (c_bind z1 (o_talk48 z2.1))))))))), z2.of k3.kF⟩
        · rw [if_pos rfl]
          rw [hd] at v7
          obtain ⟨M', z1, z2, z3, z4⟩ := m_talk48 (T := T) hn hA t2 w43 hw hr3 (isw_4 hd) h0 h10 (a := x.1) (b := x.2) x15 false
          rw [if_neg Bool.false_ne_true] at z3
          exact ⟨M', c_ite hw (c_bind q1 (c_bind r1 (c_bind t1 (c_bind v6 (c_pos rfl (c_bind v7 (c_neg (by decide) z1))))))), z2, z3, k3.kL.trans z4⟩
      · rw [if_pos rfl]
        rw [hm] at v6
        obtain ⟨M', z1, z2, z3, z4⟩ := m_talk48 (T := T) hn hA t2 w43 hw hr3 (isw_4 hm) h0 h10 (a := x.1) (b := x.2) x15 true
        rw [if_pos rfl] at z3
        exact ⟨M', c_ite hw (c_bind q1 (c_bind r1 (c_bind t1 (c_bind v6 (c_neg (by decide) z1))))), z2, z3, k3.kL.trans z4⟩
end Mlo
