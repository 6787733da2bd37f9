/-! ===== the class reads: voices, folk, echoes, unsure ways, talk ===== -/
section Clm
variable {B : Nat → Int} {n p : Nat} {T : Nat} {M M1 : aM} {A : aA}
theorem cll_inj {r s : Nat} (hr : r ≤ 15) (hs : s ≤ 15) (h : cll r = cll s) : r = s := by
  unfold cll at h
  split at h <;> split at h <;> omega
theorem CD.upo (h : CD M A) {r k : Nat} {v : Int} (h2 : 2 ≤ r) (h12 : r ≤ 12) (hk : A 0 (ctr r) ≤ k) {c : Nat} (hc : c = cll r) : CD (aup M c k v) A := by
  subst hc
  have hcl : 19 ≤ cll r ∧ cll r ≤ 30 ∧ cll r ≠ 22 := by unfold cll; split <;> omega
  obtain ⟨a, b, c, d, f, g, i, j⟩ := h
  refine ⟨by rw [aup_nc (show (18 : Nat) ≠ cll r by omega)]; exact a, by rw [aup_nc (show (17 : Nat) ≠ cll r by omega)]; exact b, by rw [aup_nc (show (17 : Nat) ≠ cll r by omega)]; exact c, fun s hs2 hs15 q hq => ?_, by rw [aup_nc (show (22 : Nat) ≠ cll r by omega)]; exact f, by rw [aup_nc (show (16 : Nat) ≠ cll r by omega)]; exact g, by rw [aup_nc (show (31 : Nat) ≠ cll r by omega), aup_nc (show (32 : Nat) ≠ cll r by omega)]; exact i, by rw [aup_nc (show (1000001 : Nat) ≠ cll r by omega)]; exact j⟩
  by_cases hsr : s = r
  · subst hsr
    have ho : off s = 0 := by unfold off; rw [if_pos (by omega)]
    rw [aup_ne2 (by omega)]
    exact d s hs2 hs15 q hq
  · rw [aup_nc (fun e => hsr (cll_inj hs15 (by omega) e))]
    exact d s hs2 hs15 q hq
theorem cdn {w j : Nat} (h : CD M A) : CD (nmM M A w j) (nmA A w j (A 0 j)) := by
  have b16 := h.2.2.2.2.2.1
  have b18 := h.1
  have c0 : ∀ i, i < 8 → nmA A w j (A 0 j) 0 i = A 0 i := fun i hi => by
    have : i ≠ 8 := by omega
    simp [nmA, up2, this]
  have c8 : nmA A w j (A 0 j) 0 8 = A 0 8 + 1 := by simp [nmA, up2]
  have cr : ∀ r, 2 ≤ r → r ≤ 15 → ∀ k, k < A 0 (ctr r) → nmA A w j (A 0 j) r k = A r k := fun r h2 h15 k hk => by
    rcases r14 h2 h15 with rfl | rfl | rfl | rfl | rfl | rfl | rfl | rfl | rfl | rfl | rfl | rfl | rfl | rfl <;> simp [ctr] at hk <;> simp [nmA, up2] <;> omega
  refine h.app (d := dl [8]) (fun i _ hi => ?_) cr (fun i hi => ?_) (fun e => ?_) ?_ (fun r h2 h15 q hq => ?_) (fun r h2 h15 hd => ?_) (fun x y hx hy => ?_) ?_ (fun i hi => ?_) ?_
  · rcases r9 hi with rfl | rfl | rfl | rfl | rfl | rfl | rfl | rfl | rfl <;> simp [nmA, up2, dl]
  · rw [c0 i hi, nm_ne (by decide)]; exact b18 i hi
  · rw [c0 0 (by decide)] at e
    rw [nm_ne (by decide)]
    have := h.2.1 e
    simp [nmA, up2, this]
  · rw [nm_ne (by decide)]
    have := h.2.2.1
    simp [nmA, up2, this]
  · rcases r14 h2 h15 with rfl | rfl | rfl | rfl | rfl | rfl | rfl | rfl | rfl | rfl | rfl | rfl | rfl | rfl <;> simp [ctr] at hq <;> simp [nmM, aup, cll, off] <;> omega
  · rcases r14 h2 h15 with rfl | rfl | rfl | rfl | rfl | rfl | rfl | rfl | rfl | rfl | rfl | rfl | rfl | rfl <;> first | (exact absurd hd (by decide)) | simp [nmM, aup, cll, off, ctr, nmA, up2]
  · have hwc := wy_cong (A' := nmA A w j (A 0 j)) (A := A) (c0 2 (by decide)) (fun q hq => ⟨cr 2 (by decide) (by decide) q hq, cr 3 (by decide) (by decide) q hq⟩) x y
    rw [hwc, c0 2 (by decide), nm_ne (by decide)]
    exact h.2.2.2.2.1 x y hx hy
  · rw [c8]
    simp [nmM, aup]
    omega
  · constructor
    · have : i ≠ 8 + A 0 8 := by omega
      simp [nmM, aup, this]
    · have : i ≠ 8 + A 0 8 := by omega
      simp [nmM, aup, this]
  · rw [nm_ne (by decide)]
theorem fnn_nm {w sr nb u : Nat} (hw : ¬ fnn A w < A 0 8) : fnn (nmA A w sr nb) u = if fnn A u < A 0 8 then fnn A u else if u = w then A 0 8 else A 0 8 + 1 := by
  have c8 : nmA A w sr nb 0 8 = A 0 8 + 1 := by simp [nmA, up2]
  have c13 : ∀ i, nmA A w sr nb 13 i = if i = A 0 8 then w else A 13 i := fun i => by simp [nmA, up2]
  show fst (fun i => decide (nmA A w sr nb 13 i = u)) (nmA A w sr nb 0 8) = _
  rw [c8]
  have hold : ∀ i, i < A 0 8 → decide (nmA A w sr nb 13 i = u) = decide (A 13 i = u) := fun i hi => by rw [c13, if_neg (by omega)]
  by_cases hf : fnn A u < A 0 8
  · rw [if_pos hf]
    refine fst_eq (by omega) ?_ fun k hk => ?_
    · rw [hold _ hf]; exact fst_yes (fun i => decide (A 13 i = u)) (A 0 8) hf
    · rw [hold k (by omega)]; exact fst_no (fun i => decide (A 13 i = u)) (A 0 8) k hk
  · rw [if_neg hf]
    have hle : fnn A u ≤ A 0 8 := fst_le _ _
    have hno : ∀ k, k < A 0 8 → decide (nmA A w sr nb 13 k = u) = false := fun k hk => by
      rw [hold k hk]
      exact fst_no (fun i => decide (A 13 i = u)) (A 0 8) k (by have : fnn A u = fst (fun i => decide (A 13 i = u)) (A 0 8) := rfl; omega)
    by_cases huw : u = w
    · rw [if_pos huw]
      refine fst_eq (by omega) ?_ hno
      rw [c13, if_pos rfl]
      exact decide_eq_true huw.symm
    · rw [if_neg huw]
      refine fst_none fun k hk => ?_
      by_cases hk2 : k < A 0 8
      · exact hno k hk2
      · rw [show k = A 0 8 by omega, c13, if_pos rfl]
        exact decide_eq_false (fun e => huw e.symm)
theorem sCv_nm {w sr nb : Nat} (hw : ¬ fnn A w < A 0 8) (hs : sr ≠ 1) (q : Nat) : sCv B n (nmA A w sr nb) q = sCv B n A q := by
  have c8 : nmA A w sr nb 0 8 = A 0 8 + 1 := by simp [nmA, up2]
  have c14 : ∀ i, nmA A w sr nb 14 i = if i = A 0 8 then sr else A 14 i := fun i => by simp [nmA, up2]
  have c15 : ∀ i, nmA A w sr nb 15 i = if i = A 0 8 then nb else A 15 i := fun i => by simp [nmA, up2]
  unfold sCv
  rw [fnn_nm hw, c8]
  by_cases hi : isn B n q = true
  · rw [if_pos hi, if_pos hi]
    by_cases hf : fnn A (kW B n q) < A 0 8
    · have hne : ¬ fnn A (kW B n q) = A 0 8 := by omega
      rw [if_pos hf, c14, c15, if_neg hne, if_neg hne]
      by_cases h1 : A 14 (fnn A (kW B n q)) = 1
      · rw [if_pos ⟨by omega, h1⟩, if_pos ⟨hf, h1⟩]
      · rw [if_neg (fun e => h1 e.2), if_neg (fun e => h1 e.2)]
    · rw [if_neg hf, if_neg (fun e : fnn A (kW B n q) < A 0 8 ∧ A 14 (fnn A (kW B n q)) = 1 => hf e.1)]
      by_cases hu : kW B n q = w
      · rw [if_pos hu, c14, if_pos rfl, if_neg (fun e => hs e.2)]
      · rw [if_neg hu, if_neg (fun e => by have := e.1; omega)]
  · rw [if_neg hi, if_neg hi]
theorem c_kind (hn : n ≤ 900) (h : CK B n M p) : f_X7_kindHere T M = some (if sKd B n p = 4 then -1 else (sKd B n p : Int)) := by
  have h20 := h.wrd (T := T) hn (k := 20) (v := 2000020) (by decide) rfl
  have h21 := h.wrd (T := T) hn (k := 21) (v := 2000021) (by decide) rfl
  have h22 := h.wrd (T := T) hn (k := 22) (v := 2000022) (by decide) rfl
  have h23 := h.wrd (T := T) hn (k := 23) (v := 2000023) (by decide) rfl
  unfold f_X7_kindHere sKd
  cases e0 : isw B n 20 p
  · rw [e0] at h20
    refine c_bind h20 (c_pos rfl ?_)
    cases e1 : isw B n 21 p
    · rw [e1] at h21
      refine c_bind h21 (c_pos rfl ?_)
      cases e2 : isw B n 22 p
      · rw [e2] at h22
        refine c_bind h22 (c_pos rfl ?_)
        cases e3 : isw B n 23 p
        · rw [e3] at h23
          exact c_bind h23 (c_pos rfl rfl)
        · rw [e3] at h23
          exact c_bind h23 (c_neg (by decide) rfl)
      · rw [e2] at h22
        exact c_bind h22 (c_neg (by decide) rfl)
    · rw [e1] at h21
      exact c_bind h21 (c_neg (by decide) rfl)
  · rw [e0] at h20
    exact c_bind h20 (c_neg (by decide) rfl)
theorem sKd_le : sKd B n p ≤ 4 := by
  unfold sKd
  split
  · decide
  · split
    · decide
    · split
      · decide
      · split <;> decide
theorem cl3 (hn : n ≤ 900) (hA : WFd A) (h : CK B n M p) (hd : CD M A) (h0 : A 0 0 = 1) (hr : A 0 3 < rom 3) : cLn B n 3 (f_X7_readVoice T M) M A (sl3 B n A p) := by
  have hr3 : A 0 3 < 3 := hr
  have h15 := names_15 hA (by decide) hr
  have m18 : M 18 3 = (A 0 3 : Int) := hd.1 3 (by decide)
  unfold sl3 f_X7_readVoice
  rw [m18, Int.toNat_natCast]
  have s1 := c_new (T := T) hn h hd h15 (j := 3) (by decide)
  cases e1 : sNw B n A p with
  | error e =>
    rw [e1] at s1
    obtain ⟨M', q1, q2⟩ := s1
    exact ⟨M', c_bind q1 (c_pos rfl rfl), q2⟩
  | ok p1 =>
    rw [e1] at s1
    obtain ⟨M1, q1, q2, q3⟩ := s1
    obtain ⟨-, -, hnf⟩ := sNw_ok e1
    have hkd := c_kind (T := T) hn q2
    have h10 : ¬ ((1 : Int) = 0) := by decide
    show cLn B n 3 _ M A (if sKd B n p1 = 4 then _ else _)
    by_cases h4 : sKd B n p1 = 4
    · rw [if_pos h4]
      rw [if_pos h4] at hkd
      obtain ⟨M', r1, r2⟩ := c_fail (T := T) (CK_up q2 (c := 23) (k := A 0 3) (v := -1) (by decide) (by decide)) 1
      exact ⟨M', c_bind q1 (c_neg h10 (c_bind hkd (c_ite (by omega) (c_some (c_pos aup_at r1))))), ((kR_nm.trans q3.kR).trans (kR_up (by decide))).trans r2.1, r2.2⟩
    · rw [if_neg h4]
      rw [if_neg h4] at hkd
      have hk4 : sKd B n p1 < 4 := by have := sKd_le (B := B) (n := n) (p := p1); omega
      have hkne : ¬ ((sKd B n p1 : Int) = -1) := by omega
      obtain ⟨M2, r1, r2, r3⟩ := (CK_up q2 (c := 23) (k := A 0 3) (v := (sKd B n p1 : Int)) (by decide) (by decide)).adv (T := T) hn
      have s2 := c_word (T := T) hn r2 (k := 8) (v := 2000008) (by decide) rfl
      cases e2 : sWd B n 8 (kX B n p1) with
      | error e =>
        rw [e2] at s2
        obtain ⟨M', t1, t2⟩ := s2
        refine ⟨aup M' 24 (A 0 3) (-1), c_bind q1 (c_neg h10 (c_bind hkd (c_ite (by omega) (c_some (c_neg (by rw [aup_at]; exact hkne) (c_bind r1 (c_bind t1 (c_pos rfl (c_some (c_pos aup_at rfl))))))))) ), ((((kR_nm.trans q3.kR).trans (kR_up (by decide))).trans (kA.kR r3)).trans t2.1).trans (kR_up (by decide)), ?_⟩
        rw [aup_nc (by decide)]; exact t2.2
      | ok p3 =>
        rw [e2] at s2
        obtain ⟨M3, t1, t2, t3⟩ := s2
        have kk3 : kA (aup (nmM M A (kW B n p) 3) 23 (A 0 3) (sKd B n p1 : Int)) M3 := ((kA_up q3).trans r3).trans t3
        have hd3 : CD M3 (nmA A (kW B n p) 3 (A 0 3)) := CD.cong (CD.upo (cdn hd) (r := 5) (by decide) (by decide) (by show nmA A (kW B n p) 3 (A 0 3) 0 3 ≤ A 0 3; simp [nmA, up2]) rfl) kk3
        have s3 := c_first (T := T) hn t2 hd3 (by show nmA A (kW B n p) 3 (A 0 3) 0 8 ≤ 15; simp [nmA, up2]; omega)
        rw [sCv_nm hnf (by decide)] at s3
        have hpre : ∀ y, ((f_X7_readFirstCave T M3).bind fun x24 => (some (aup x24.2 24 (A 0 3) x24.1)).bind fun m28 => if (m28 24 (A 0 3)) = (-1) then some (0, m28) else some (1, m28)) = y → f_X7_readVoice T M = y := by
          intro y hy
          unfold f_X7_readVoice
          rw [m18, Int.toNat_natCast]
          exact c_bind q1 (c_neg h10 (c_bind hkd (c_ite (by omega) (c_some (c_neg (by rw [aup_at]; exact hkne) (c_bind r1 (c_bind t1 (c_neg h10 hy))))))))
        have hbase : kR M M3 := ((kR_nm (A := A) (w := kW B n p) (j := 3)).trans (kR_up (by decide))).trans kk3.kR
        have hback : (((f_X7_readNewName T 3 M).bind fun x1 =>
            if x1.1 = 0 then some (0, x1.2) else
            (f_X7_kindHere T x1.2).bind fun x6 =>
            if 0 ≤ (A 0 3 : Int) ∧ (A 0 3 : Int) < 3 then
            (some (aup x1.2 23 (A 0 3) x6)).bind fun m9 =>
            if (m9 23 (A 0 3)) = (-1) then
            (f_X7_fails T 1 m9).bind fun x31 => if x31.1 = 0 ∨ x31.1 = 1 then some (x31.1, x31.2) else none else
            (f_X9_advance T m9).bind fun x12 =>
            (f_X7_readWord T 2000008 x12.2).bind fun x16 =>
            if x16.1 = 0 then
            (some (aup x16.2 24 (A 0 3) (-1))).bind fun m21 =>
            if (m21 24 (A 0 3)) = (-1) then some (0, m21) else some (1, m21) else
            (f_X7_readFirstCave T x16.2).bind fun x24 =>
            (some (aup x24.2 24 (A 0 3) x24.1)).bind fun m28 =>
            if (m28 24 (A 0 3)) = (-1) then some (0, m28) else some (1, m28) else none) : Option (Int × aM)) = ((f_X7_readFirstCave T M3).bind fun x24 => (some (aup x24.2 24 (A 0 3) x24.1)).bind fun m28 => if (m28 24 (A 0 3)) = (-1) then some (0, m28) else some (1, m28)) :=
          c_bind q1 (c_neg h10 (c_bind hkd (c_ite (by omega) (c_some (c_neg (by rw [aup_at]; exact hkne) (c_bind r1 (c_bind t1 (c_neg h10 rfl))))))))
        show cLn B n 3 _ M A ((sCv B n A p3).bind _)
        rw [hback]
        cases e3 : sCv B n A p3 with
        | error e =>
          rw [e3] at s3
          obtain ⟨M', u1, u2⟩ := s3
          refine ⟨aup M' 24 (A 0 3) (-1), c_bind u1 (c_some (c_pos aup_at rfl)), (hbase.trans u2.1).trans (kR_up (by decide)), ?_⟩
          rw [aup_nc (by decide)]; exact u2.2
        | ok c =>
          rw [e3] at s3
          obtain ⟨M4, u1, u2, u3⟩ := s3
          have hcne : ¬ ((c : Int) = -1) := by omega
          have hk : kA (E3 M A (sKd B n p1) c (kW B n p)) (aup M4 24 (A 0 3) (c : Int)) := kA_up (kk3.trans u3)
          refine ⟨aup M4 24 (A 0 3) (c : Int), c_bind u1 (c_some (c_neg (by rw [aup_at]; exact hcne) rfl)), CK_up u2 (by decide) (by decide), (cd3 hd h0).cong (kA_up hk), ?_, (hbase.trans (kA.kR u3)).trans (kR_up (by decide)), by rw [hk 16 (by decide)]; simp [E3, nmM, aup]⟩
          rw [hk 18 (by decide)]
          unfold E3
          rw [aup_nc (by decide), aup_nc (by decide), nm_ne (by decide)]
          exact m18
theorem cl4 (hn : n ≤ 900) (hA : WFd A) (h : CK B n M p) (hd : CD M A) (h0 : A 0 0 = 1) (hr : A 0 4 < rom 4) : cLn B n 4 (f_X7_readFolk T M) M A (sl4 B n A p) := by
  have hr3 : A 0 4 < 4 := hr
  have h15 := names_15 hA (by decide) hr
  have m18 : M 18 4 = (A 0 4 : Int) := hd.1 4 (by decide)
  have h10 : ¬ ((1 : Int) = 0) := by decide
  unfold sl4 f_X7_readFolk
  rw [m18, Int.toNat_natCast]
  have s1 := c_new (T := T) hn h hd h15 (j := 4) (by decide)
  cases e1 : sNw B n A p with
  | error e =>
    rw [e1] at s1
    obtain ⟨M', q1, q2⟩ := s1
    exact ⟨M', c_bind q1 (c_pos rfl rfl), q2⟩
  | ok p1 =>
    rw [e1] at s1
    obtain ⟨M1, q1, q2, q3⟩ := s1
    obtain ⟨-, -, hnf⟩ := sNw_ok e1
    have s2 := c_word (T := T) hn q2 (k := 8) (v := 2000008) (by decide) rfl
    show cLn B n 4 _ M A ((sWd B n 8 p1).bind _)
    cases e2 : sWd B n 8 p1 with
    | error e =>
      rw [e2] at s2
      obtain ⟨M', t1, t2⟩ := s2
      refine ⟨aup M' 25 (A 0 4) (-1), c_bind q1 (c_neg h10 (c_bind t1 (c_pos rfl (c_ite (by omega) (c_some (c_pos aup_at rfl)))))), ((kR_nm.trans q3.kR).trans t2.1).trans (kR_up (by decide)), ?_⟩
      rw [aup_nc (by decide)]; exact t2.2
    | ok p3 =>
      rw [e2] at s2
      obtain ⟨M3, t1, t2, t3⟩ := s2
      have kk3 : kA (nmM M A (kW B n p) 4) M3 := q3.trans t3
      have hd3 : CD M3 (nmA A (kW B n p) 4 (A 0 4)) := CD.cong (cdn hd) kk3
      have s3 := c_first (T := T) hn t2 hd3 (by show nmA A (kW B n p) 4 (A 0 4) 0 8 ≤ 15; simp [nmA, up2]; omega)
      rw [sCv_nm hnf (by decide)] at s3
      have hbase : kR M M3 := (kR_nm (A := A) (w := kW B n p) (j := 4)).trans kk3.kR
      show cLn B n 4 _ M A ((sCv B n A p3).bind _)
      cases e3 : sCv B n A p3 with
      | error e =>
        rw [e3] at s3
        obtain ⟨M', u1, u2⟩ := s3
        refine ⟨aup M' 25 (A 0 4) (-1), c_bind q1 (c_neg h10 (c_bind t1 (c_neg h10 (c_bind u1 (c_ite (by omega) (c_some (c_pos aup_at rfl))))))), (hbase.trans u2.1).trans (kR_up (by decide)), ?_⟩
        rw [aup_nc (by decide)]; exact u2.2
      | ok c =>
        rw [e3] at s3
        obtain ⟨M4, u1, u2, u3⟩ := s3
        have hcne : ¬ ((c : Int) = -1) := by omega
        have hk : kA (E4 M A c (kW B n p)) (aup M4 25 (A 0 4) (c : Int)) := kA_up (kk3.trans u3)
        refine ⟨aup M4 25 (A 0 4) (c : Int), c_bind q1 (c_neg h10 (c_bind t1 (c_neg h10 (c_bind u1 (c_ite (by omega) (c_some (c_neg (by rw [aup_at]; exact hcne) rfl))))))), CK_up u2 (by decide) (by decide), (cd4 hd h0).cong (kA_up hk), ?_, (hbase.trans (kA.kR u3)).trans (kR_up (by decide)), by rw [hk 16 (by decide)]; simp [E4, nmM, aup]⟩
        rw [hk 18 (by decide)]
        unfold E4
        rw [aup_nc (by decide), nm_ne (by decide)]
        exact m18
theorem c_hasEcho (hd : CD M A) (hA : WFd A) {c : Nat} : f_X10_hasEcho T 17 (c : Int) M = some (bI (exb (fun i => decide (A 8 i = c)) (A 0 5))) := by
  have h4 := hA.1.2.2.2.2.2.1
  have e18 : M (17 + 1) 5 = (A 0 5 : Int) := hd.1 5 (by decide)
  have e26 : ∀ i, i < A 0 5 → M (17 + 9) i = (A 8 i : Int) := fun i hi => by
    have := hd.2.2.2.1 8 (by decide) (by decide) i hi
    rw [show off 8 + i = i by unfold off; rw [if_pos (by decide)]; omega] at this
    exact this
  unfold f_X10_hasEcho
  rw [exb_fst]
  have key := find_loop (fun m i => l_X10_hasEcho_2 T 17 (c : Int) M (fun w5 => some 0) m i) (A 0 5) (fun i => decide (A 8 i = c)) (fun _ => some 1) (y := some 0) (by omega) (fun i m hi hp => ?_) (fun i m hi hp => ?_) (fun m => ?_)
  · refine Eq.trans key ?_
    split
    · rename_i hq; rw [decide_eq_true hq]; rfl
    · rename_i hq; rw [decide_eq_false hq]; rfl
  · show l_X10_hasEcho_2 T 17 (c : Int) M _ (m + 1) (i : Int) = _
    rw [l_X10_hasEcho_2, e18, Int.toNat_natCast, e26 i hi]
    exact c_neg (by omega) (c_ite (by omega) (c_neg (fun e => (of_decide_eq_false hp) (by omega)) (c_ite (by omega) rfl)))
  · show l_X10_hasEcho_2 T 17 (c : Int) M _ (m + 1) (i : Int) = _
    rw [l_X10_hasEcho_2, e18, Int.toNat_natCast, e26 i hi]
    exact c_neg (by omega) (c_ite (by omega) (c_pos (by have := of_decide_eq_true hp; omega) rfl))
  · show l_X10_hasEcho_2 T 17 (c : Int) M _ (m + 1) ((A 0 5 : Nat) : Int) = _
    rw [l_X10_hasEcho_2, e18]
    exact c_pos (Int.le_refl _) rfl
theorem c_isUnsure (hd : CD M A) (hA : WFd A) {c : Nat} : f_X10_isUnsure T 17 (c : Int) M = some (bI (exb (fun i => decide (A 10 i = c)) (A 0 6))) := by
  have h4 := hA.1.2.2.2.2.2.2.1
  have e18 : M (17 + 1) 6 = (A 0 6 : Int) := hd.1 6 (by decide)
  have e26 : ∀ i, i < A 0 6 → M (17 + 11) i = (A 10 i : Int) := fun i hi => by
    have := hd.2.2.2.1 10 (by decide) (by decide) i hi
    rw [show off 10 + i = i by unfold off; rw [if_pos (by decide)]; omega] at this
    exact this
  unfold f_X10_isUnsure
  rw [exb_fst]
  have key := find_loop (fun m i => l_X10_isUnsure_2 T 17 (c : Int) M (fun w5 => some 0) m i) (A 0 6) (fun i => decide (A 10 i = c)) (fun _ => some 1) (y := some 0) (by omega) (fun i m hi hp => ?_) (fun i m hi hp => ?_) (fun m => ?_)
  · refine Eq.trans key ?_
    split
    · rename_i hq; rw [decide_eq_true hq]; rfl
    · rename_i hq; rw [decide_eq_false hq]; rfl
  · show l_X10_isUnsure_2 T 17 (c : Int) M _ (m + 1) (i : Int) = _
    rw [l_X10_isUnsure_2, e18, Int.toNat_natCast, e26 i hi]
    exact c_neg (by omega) (c_ite (by omega) (c_neg (fun e => (of_decide_eq_false hp) (by omega)) (c_ite (by omega) rfl)))
  · show l_X10_isUnsure_2 T 17 (c : Int) M _ (m + 1) (i : Int) = _
    rw [l_X10_isUnsure_2, e18, Int.toNat_natCast, e26 i hi]
    exact c_neg (by omega) (c_ite (by omega) (c_pos (by have := of_decide_eq_true hp; omega) rfl))
  · show l_X10_isUnsure_2 T 17 (c : Int) M _ (m + 1) ((A 0 6 : Nat) : Int) = _
    rw [l_X10_isUnsure_2, e18]
    exact c_pos (Int.le_refl _) rfl
theorem cl5 (hn : n ≤ 900) (hA : WFd A) (h : CK B n M p) (hd : CD M A) (h0 : A 0 0 = 1) (hr : A 0 5 < rom 5) : cLn B n 5 (f_X7_readEcho T M) M A (sl5 B n A p) := by
  have hr4 : A 0 5 < 4 := hr
  have m18 : M 18 5 = (A 0 5 : Int) := hd.1 5 (by decide)
  unfold sl5 f_X7_readEcho
  rw [m18, Int.toNat_natCast]
  have s1 := c_cave2 (T := T) hn h hd (names_le hA)
  cases e1 : sCv B n A p with
  | error e =>
    rw [e1] at s1
    obtain ⟨M', q1, q2⟩ := s1
    exact ⟨M', c_bind q1 (c_pos rfl rfl), q2⟩
  | ok c =>
    rw [e1] at s1
    have hcne : ¬ ((c : Int) = -1) := by omega
    have hec := c_hasEcho (T := T) hd hA (c := c)
    show cLn B n 5 _ M A (if exb (fun i => decide (A 8 i = c)) (A 0 5) = true then _ else _)
    cases he : exb (fun i => decide (A 8 i = c)) (A 0 5)
    · rw [if_neg Bool.false_ne_true]
      rw [he] at hec
      obtain ⟨M1, r1, r2, r3⟩ := h.adv (T := T) hn
      have s2 := c_num (T := T) hn (CK_up r2 (c := 26) (k := A 0 5) (v := (c : Int)) (by decide) (by decide)) (k := 9) (lo := 0) (hi := 400) (v := 2000009) (a := 0) (b := 400) (by decide) rfl rfl rfl
      cases e2 : sNu B n 9 0 400 (kX B n p) with
      | error e =>
        rw [e2] at s2
        obtain ⟨M', t1, t2⟩ := s2
        refine ⟨aup M' 27 (A 0 5) (-1), c_bind s1 (c_neg hcne (c_bind hec (c_pos rfl (c_bind r1 (c_ite (by omega) (c_some (c_bind t1 (c_some (c_pos aup_at rfl)))))))) ), (((kA.kR r3).trans (kR_up (by decide))).trans t2.1).trans (kR_up (by decide)), ?_⟩
        rw [aup_nc (by decide)]; exact t2.2
      | ok x =>
        rw [e2] at s2
        obtain ⟨M2, t1, t2, t3⟩ := s2
        have hxne : ¬ ((x.1 : Int) = -1) := by omega
        have hk : kA (E5 M A c x.1) (aup M2 27 (A 0 5) (x.1 : Int)) := kA_up ((kA_up r3).trans t3)
        refine ⟨aup M2 27 (A 0 5) (x.1 : Int), c_bind s1 (c_neg hcne (c_bind hec (c_pos rfl (c_bind r1 (c_ite (by omega) (c_some (c_bind t1 (c_some (c_neg (by rw [aup_at]; exact hxne) rfl))))))))), CK_up t2 (by decide) (by decide), (cd5 hd h0).cong (kA_up hk), ?_, ((kR_up (by decide)).trans (kR_up (by decide))).trans hk.kR, by rw [hk 16 (by decide)]; simp [E5, nmM, aup]⟩
        rw [hk 18 (by decide)]
        unfold E5
        rw [aup_nc (by decide), aup_nc (by decide)]
        exact m18
    · rw [if_pos rfl]
      rw [he] at hec
      obtain ⟨M', r1, r2⟩ := c_fail (T := T) h 3
      exact ⟨M', c_bind s1 (c_neg hcne (c_bind hec (c_neg (by decide) r1))), r2⟩
theorem cl6 (hn : n ≤ 900) (hA : WFd A) (h : CK B n M p) (hd : CD M A) (h0 : A 0 0 = 1) (hr : A 0 6 < rom 6) : cLn B n 6 (f_X7_readUnsure T M) M A (sl6 B n A p) := by
  have hr4 : A 0 6 < 4 := hr
  have h8 := hA.1.2.1
  unfold sl6 f_X7_readUnsure
  have s1 := c_first (T := T) hn h hd (names_le hA)
  cases e1 : sCv B n A p with
  | error e =>
    rw [e1] at s1
    obtain ⟨M', q1, q2⟩ := s1
    refine ⟨M', c_bind q1 (c_pos rfl ?_), q2⟩
    unfold b_X7_readUnsure_18
    exact c_pos rfl rfl
  | ok a =>
    rw [e1] at s1
    obtain ⟨M1, q1, q2, q3⟩ := s1
    have ha := sCv_ok hA e1
    have hd1 := hd.cong q3
    have hane : ¬ ((a : Int) = -1) := by omega
    have m18 : M1 18 6 = (A 0 6 : Int) := hd1.1 6 (by decide)
    have s2 := c_cave2 (T := T) hn q2 hd1 (names_le hA)
    show cLn B n 6 _ M A ((sCv B n A (kX B n p)).bind _)
    cases e2 : sCv B n A (kX B n p) with
    | error e =>
      rw [e2] at s2
      obtain ⟨M', r1, r2⟩ := s2
      refine ⟨M', c_bind q1 (c_neg hane (c_bind r1 ?_)), q3.kR.trans r2.1, r2.2⟩
      unfold b_X7_readUnsure_18
      exact c_pos rfl rfl
    | ok b =>
      rw [e2] at s2
      have hb := sCv_ok hA e2
      have hbne : ¬ ((b : Int) = -1) := by omega
      have hwb := c_wayB (T := T) hd1 hA (a := a) (b := b) (by omega) (by omega)
      have pre : ∀ y, b_X7_readUnsure_18 T (a : Int) (b : Int) M1 = y → ((f_X7_readFirstCave T M).bind fun x1 => if x1.1 = (-1) then b_X7_readUnsure_18 T x1.1 (-1) x1.2 else (f_X7_caveHere T x1.2).bind fun x6 => b_X7_readUnsure_18 T x1.1 x6.1 x6.2) = y := fun y hy => c_bind q1 (c_neg hane (c_bind s2 hy))
      show cLn B n 6 _ M A (if b = a then _ else _)
      by_cases hba : b = a
      · rw [if_pos hba]
        obtain ⟨M', r1, r2⟩ := c_fail (T := T) q2 3
        refine ⟨M', pre _ ?_, q3.kR.trans r2.1, r2.2⟩
        unfold b_X7_readUnsure_18
        exact c_neg hbne (c_bind hwb (c_pos (by omega) r1))
      · rw [if_neg hba]
        by_cases hw : wy A a b < A 0 2
        · rw [if_pos hw] at hwb ⊢
          have hun := c_isUnsure (T := T) hd1 hA (c := wy A a b)
          cases hu : exb (fun i => decide (A 10 i = wy A a b)) (A 0 6)
          · rw [if_neg Bool.false_ne_true]
            rw [hu] at hun
            obtain ⟨M2, t1, t2, t3⟩ := (CK_up q2 (c := 28) (k := A 0 6) (v := (wy A a b : Int)) (by decide) (by decide)).adv (T := T) hn
            have hk : kA (E6 M A (wy A a b)) M2 := (kA_up q3).trans t3
            refine ⟨M2, pre _ ?_, t2, (cd6 hd h0).cong (kA_up hk), ?_, (kR_up (by decide)).trans hk.kR, by rw [hk 16 (by decide)]; simp [E6, nmM, aup]⟩
            · unfold b_X7_readUnsure_18
              refine c_neg hbne (c_bind hwb (c_neg (by omega) (c_neg (by omega) (c_bind hun (c_pos rfl ?_)))))
              unfold b_X7_readUnsure_63
              rw [m18, Int.toNat_natCast]
              exact c_neg (by omega) (c_ite (by omega) (c_some (c_bind t1 rfl)))
            · rw [hk 18 (by decide)]
              unfold E6
              rw [aup_nc (by decide)]
              exact hd.1 6 (by decide)
          · rw [if_pos rfl]
            rw [hu] at hun
            obtain ⟨M', r1, r2⟩ := c_fail (T := T) q2 3
            refine ⟨M', pre _ ?_, q3.kR.trans r2.1, r2.2⟩
            unfold b_X7_readUnsure_18
            exact c_neg hbne (c_bind hwb (c_neg (by omega) (c_neg (by omega) (c_bind hun (c_neg (by decide) r1)))))
        · rw [if_neg hw] at hwb ⊢
          obtain ⟨M', r1, r2⟩ := c_fail (T := T) q2 7
          refine ⟨M', pre _ ?_, q3.kR.trans r2.1, r2.2⟩
          unfold b_X7_readUnsure_18
          refine c_neg hbne (c_bind hwb (c_neg (by omega) (c_pos rfl ?_)))
          unfold b_X7_readUnsure_63
          exact c_pos rfl r1
theorem cl7 (hn : n ≤ 900) (hA : WFd A) (h : CK B n M p) (hd : CD M A) (h0 : A 0 0 = 1) (hr : A 0 7 < rom 7) : cLn B n 7 (f_X7_readTalk T M) M A (sl7 B n A p) := by
  have hr5 : A 0 7 < 5 := hr
  have h8 := hA.1.2.1
  have h32 := hA.2.1.2.2.2.2.2.2
  have m18 : M 18 7 = (A 0 7 : Int) := hd.1 7 (by decide)
  unfold sl7 f_X7_readTalk
  rw [m18, Int.toNat_natCast]
  have s1 := c_first (T := T) hn h hd (names_le hA)
  cases e1 : sCv B n A p with
  | error e =>
    rw [e1] at s1
    obtain ⟨M', q1, q2⟩ := s1
    exact ⟨M', c_bind q1 (c_pos rfl rfl), q2⟩
  | ok a =>
    rw [e1] at s1
    obtain ⟨M1, q1, q2, q3⟩ := s1
    have hd1 := hd.cong q3
    have hane : ¬ ((a : Int) = -1) := by omega
    have s2 := c_cave2 (T := T) hn q2 hd1 (names_le hA)
    show cLn B n 7 _ M A ((sCv B n A (kX B n p)).bind _)
    cases e2 : sCv B n A (kX B n p) with
    | error e =>
      rw [e2] at s2
      obtain ⟨M', r1, r2⟩ := s2
      exact ⟨M', c_bind q1 (c_neg hane (c_bind r1 (c_pos rfl rfl))), q3.kR.trans r2.1, r2.2⟩
    | ok b =>
      rw [e2] at s2
      have hbne : ¬ ((b : Int) = -1) := by omega
      show cLn B n 7 _ M A (if b = a then _ else _)
      by_cases hba : b = a
      · rw [if_pos hba]
        obtain ⟨M', r1, r2⟩ := c_fail (T := T) q2 3
        exact ⟨M', c_bind q1 (c_neg hane (c_bind s2 (c_neg hbne (c_pos (by show (b : Int) = (a : Int); omega) r1)))), q3.kR.trans r2.1, r2.2⟩
      · rw [if_neg hba]
        have hbai : ¬ ((b : Int) = (a : Int)) := by omega
        obtain ⟨M2, r1, r2, r3⟩ := q2.adv (T := T) hn
        have k2 : kA (aup (aup M 29 (A 0 7) (a : Int)) 30 (A 0 7) (b : Int)) (aup (aup M2 29 (A 0 7) (a : Int)) 30 (A 0 7) (b : Int)) := kA_up (kA_up (q3.trans r3))
        have ck2 : CK B n (aup (aup M2 29 (A 0 7) (a : Int)) 30 (A 0 7) (b : Int)) (kX B n (kX B n p)) := CK_up (CK_up r2 (by decide) (by decide)) (by decide) (by decide)
        have n18 : aup (aup M2 29 (A 0 7) (a : Int)) 30 (A 0 7) (b : Int) 17 18 = (A 1 5 : Int) := by
          rw [k2 17 (by decide), aup_nc (by decide), aup_nc (by decide)]
          exact hd.2.2.1.2.2
        have hbase : kR M (aup (aup M2 29 (A 0 7) (a : Int)) 30 (A 0 7) (b : Int)) := ((kR_up (by decide)).trans (kR_up (by decide))).trans k2.kR
        have pre : ∀ y, ((f_X9_isWord T 2000010 (aup (aup M2 29 (A 0 7) (a : Int)) 30 (A 0 7) (b : Int))).bind fun x21 =>
            if x21 = 0 then
            (f_X7_readWord T 2000011 (aup (aup M2 29 (A 0 7) (a : Int)) 30 (A 0 7) (b : Int))).bind fun x24 =>
            if x24.1 = 0 ∨ x24.1 = 1 then some (x24.1, x24.2) else none else
            (some (aup (aup (aup M2 29 (A 0 7) (a : Int)) 30 (A 0 7) (b : Int)) 17 18 (aor (aup (aup M2 29 (A 0 7) (a : Int)) 30 (A 0 7) (b : Int) 17 18) (ashl 1 (A 0 7 : Int))))).bind fun m29 =>
            (f_X7_readWord T 2000010 m29).bind fun x31 =>
            if x31.1 = 0 ∨ x31.1 = 1 then some (x31.1, x31.2) else none) = y → f_X7_readTalk T M = y := by
          intro y hy
          unfold f_X7_readTalk
          rw [m18, Int.toNat_natCast]
          exact c_bind q1 (c_neg hane (c_bind s2 (c_neg hbne (c_neg hbai (c_bind r1 (c_ite (by omega) (c_some (c_some hy))))))))
        generalize aup (aup M2 29 (A 0 7) (a : Int)) 30 (A 0 7) (b : Int) = M3 at k2 ck2 n18 hbase pre
        have hw10 := ck2.wrd (T := T) hn (k := 10) (v := 2000010) (by decide) rfl
        have fin : ∀ (m : Nat) (M' : aM), kA (E7 M A a b m) M' → CD (aup M' 18 7 ((A 0 7 : Int) + 1)) (L7 A a b m) ∧ M' 18 7 = (A 0 7 : Int) ∧ kR M M' ∧ M' 16 1 = M 16 1 := by
          intro m M' hk
          refine ⟨(cd7 hd h0).cong (kA_up hk), ?_, (((kR_up (by decide)).trans (kR_up (by decide))).trans (kR_up (by decide))).trans hk.kR, by rw [hk 16 (by decide)]; simp [E7, nmM, aup]⟩
          rw [hk 18 (by decide)]
          unfold E7
          rw [aup_nc (by decide), aup_nc (by decide), aup_nc (by decide)]
          exact m18
        have hcode : (((f_X7_readFirstCave T M).bind fun x1 =>
            if x1.1 = (-1) then some (0, x1.2) else
            (f_X7_caveHere T x1.2).bind fun x6 =>
            if x6.1 = (-1) then some (0, x6.2) else
            if x6.1 = x1.1 then
            (f_X7_fails T 3 x6.2).bind fun x36 => if x36.1 = 0 ∨ x36.1 = 1 then some (x36.1, x36.2) else none else
            (f_X9_advance T x6.2).bind fun x12 =>
            if 0 ≤ (A 0 7 : Int) ∧ (A 0 7 : Int) < 5 then
            (some (aup x12.2 29 (A 0 7) x1.1)).bind fun m17 =>
            (some (aup m17 30 (A 0 7) x6.1)).bind fun m19 =>
            (f_X9_isWord T 2000010 m19).bind fun x21 =>
            if x21 = 0 then
            (f_X7_readWord T 2000011 m19).bind fun x24 => if x24.1 = 0 ∨ x24.1 = 1 then some (x24.1, x24.2) else none else
            (some (aup m19 17 18 (aor (m19 17 18) (ashl 1 (A 0 7 : Int))))).bind fun m29 =>
            (f_X7_readWord T 2000010 m29).bind fun x31 => if x31.1 = 0 ∨ x31.1 = 1 then some (x31.1, x31.2) else none else none) : Option (Int × aM)) = f_X7_readTalk T M := by
          unfold f_X7_readTalk
          rw [m18, Int.toNat_natCast]
        rw [hcode]
        cases hm : isw B n 10 (kX B n (kX B n p))
        · rw [if_neg Bool.false_ne_true]
          rw [hm] at hw10
          have s4 := c_word (T := T) hn ck2 (k := 11) (v := 2000011) (by decide) rfl
          unfold sWd at s4
          cases hm7 : isw B n 11 (kX B n (kX B n p))
          · rw [hm7, if_neg Bool.false_ne_true] at s4
            rw [if_neg Bool.false_ne_true]
            obtain ⟨M', u1, u2⟩ := s4
            exact ⟨M', pre _ (c_bind hw10 (c_pos rfl (c_bind u1 (c_ite (Or.inl rfl) rfl)))), hbase.trans u2.1, u2.2⟩
          · rw [hm7, if_pos rfl] at s4
            rw [if_pos rfl]
            obtain ⟨M', u1, u2, u3⟩ := s4
            have hk : kA (E7 M A a b (A 1 5)) M' := by
              have hse : E7 M A a b (A 1 5) = aup (aup M 29 (A 0 7) (a : Int)) 30 (A 0 7) (b : Int) := aup_sf (by rw [aup_nc (by decide), aup_nc (by decide)]; exact hd.2.2.1.2.2)
              rw [hse]
              exact k2.trans u3
            exact ⟨M', pre _ (c_bind hw10 (c_pos rfl (c_bind u1 (c_ite (Or.inr rfl) rfl)))), u2, fin _ M' hk⟩
        · rw [if_pos rfl]
          rw [hm] at hw10
          have s4 := c_word (T := T) hn (CK_up ck2 (c := 17) (k := 18) (v := ((A 1 5 ||| 2 ^ A 0 7 : Nat) : Int)) (by decide) (by decide)) (k := 10) (v := 2000010) (by decide) rfl
          unfold sWd at s4
          rw [hm, if_pos rfl] at s4
          obtain ⟨M', u1, u2, u3⟩ := s4
          have hor : aor (M3 17 18) (ashl 1 (A 0 7 : Int)) = ((A 1 5 ||| 2 ^ A 0 7 : Nat) : Int) := by
            rw [n18, ashl_one _ (by omega), aor_nat (by omega) (Nat.pow_lt_pow_right (a := 2) (n := 31) (by decide) (by omega))]
          refine ⟨M', pre _ (c_bind hw10 (c_neg (by decide) (c_some ?_))), u2, fin _ M' ((kA_up k2).trans u3)⟩
          rw [hor]
          exact c_bind u1 (c_ite (Or.inr rfl) rfl)
end Clm
