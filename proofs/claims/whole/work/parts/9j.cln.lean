/-! ===== the class reads: each line ===== -/
section Cln
variable {B : Nat → Int} {n p : Nat} {T : Nat} {M M1 : aM} {A : aA}
theorem cd0 {a b c : Nat} (h : CD M A) (hA : WFd A) (h0 : A 0 0 = 0) : CD (aup (E0 M a b c) 18 0 ((A 0 0 : Int) + 1)) (L0 A a b c) := by
  obtain ⟨z1, z2⟩ := hA.2.2.2.2.2.2.2.2.2.1 h0
  have b17b := h.2.2.1
  have b16 := h.2.2.2.2.2.1
  have b18 := h.1
  have g0 := b18 0 (by decide); have g1 := b18 1 (by decide); have g2 := b18 2 (by decide); have g3 := b18 3 (by decide); have g4 := b18 4 (by decide); have g5 := b18 5 (by decide); have g6 := b18 6 (by decide); have g7 := b18 7 (by decide)
  have hc : ∀ i, 1 ≤ i → L0 A a b c 0 i = A 0 i := fun i hi => by
    have : i ≠ 0 := by omega
    simp [L0, inc, up2, this]
  have hr : ∀ r, 2 ≤ r → ∀ k, L0 A a b c r k = A r k := fun r h2 k => by
    have q0 : r ≠ 0 := by omega
    have q1 : r ≠ 1 := by omega
    simp [L0, inc, up2, q0, q1]
  refine h.app (d := fun _ => 0) (fun i hi _ => ⟨hc i hi, by decide⟩) (fun r h2 _ k _ => hr r h2 k) (fun i hi => ?_) (fun _ => ?_) ?_ (fun r h2 h15 q hq => ?_) (fun r h2 h15 hd => absurd hd (by decide)) (fun x y hx hy => ?_) ?_ (fun i hi => ?_) ?_
  · rcases i8 hi with rfl | rfl | rfl | rfl | rfl | rfl | rfl | rfl <;> simp [E0, aup, L0, inc, up2, g0, g1, g2, g3, g4, g5, g6, g7]
  · simp [E0, aup, L0, inc, up2]
  · obtain ⟨k1, k2, k3⟩ := b17b
    simp [E0, aup, L0, inc, up2, k1, k2, k3]
  · rcases r14 h2 h15 with rfl | rfl | rfl | rfl | rfl | rfl | rfl | rfl | rfl | rfl | rfl | rfl | rfl | rfl <;> simp [E0, aup, cll, off]
  · have hwc := wy_cong (A' := L0 A a b c) (A := A) (hc 2 (by decide)) (fun q _ => ⟨hr 2 (by decide) q, hr 3 (by decide) q⟩) x y
    rw [hwc, hc 2 (by decide), ← h.2.2.2.2.1 x y hx hy]
    simp [E0, aup]
  · rw [hc 8 (by decide), ← b16]
    simp [E0, aup]
  · simp [E0, aup]
  · funext q; simp [E0, aup]
/-- how a line comes out -/
def cLn (B : Nat → Int) (n j : Nat) (x : Option (Int × aM)) (M : aM) (A : aA) (e : Except rE (aA × Nat)) : Prop := match e with
  | .error er => cErr x 0 M er
  | .ok y => ∃ M', x = some (1, M') ∧ CK B n M' y.2 ∧ CD (aup M' 18 j ((A 0 j : Int) + 1)) y.1 ∧ M' 18 j = (A 0 j : Int) ∧ kR M M' ∧ M' 16 1 = M 16 1
theorem CK_up (h : CK B n M p) {c k : Nat} {v : Int} (hc : c ≠ 34) (h1 : c ≠ 1) : CK B n (aup M c k v) p := by
  unfold CK
  rw [aup_nc (show (34 : Nat) ≠ c by omega), aup_nc (show (1 : Nat) ≠ c by omega)]
  exact h
theorem E0_ne {a b c m : Nat} (h : m ≠ 17) : E0 M a b c m = M m := by unfold E0; rw [aup_nc h, aup_nc h, aup_nc h]
theorem cl0 (hn : n ≤ 900) (hA : WFd A) (h : CK B n M p) (hd : CD M A) (h0 : A 0 0 = 0) : cLn B n 0 (f_X7_readWell T M) M A (sl0 B n A p) := by
  unfold sl0 f_X7_readWell
  have s1 := c_num (T := T) hn h (k := 0) (lo := 0) (hi := 99) (v := 2000000) (a := 0) (b := 99) (by decide) rfl rfl rfl
  cases e1 : sNu B n 0 0 99 p with
  | error e =>
    rw [e1] at s1
    obtain ⟨M', q1, q2, q3⟩ := s1
    refine ⟨aup M' 17 0 (-1), c_bind q1 (c_some (c_pos aup_at rfl)), q2.trans (kR_up (by decide)), ?_⟩
    rw [aup_nc (by decide)]; exact q3
  | ok x =>
    rw [e1] at s1
    obtain ⟨M1, q1, q2, q3⟩ := s1
    have s2 := c_num (T := T) hn (CK_up q2 (c := 17) (k := 0) (v := (x.1 : Int)) (by decide) (by decide)) (k := 1) (lo := 0) (hi := 100) (v := 2000001) (a := 0) (b := 100) (by decide) rfl rfl rfl
    have hx : ¬ (((x.1 : Nat) : Int) = -1) := by omega
    show cLn B n 0 _ M A ((sNu B n 1 0 100 x.2).bind _)
    cases e2 : sNu B n 1 0 100 x.2 with
    | error e =>
      rw [e2] at s2
      obtain ⟨M', r1, r2, r3⟩ := s2
      refine ⟨aup M' 17 1 (-1), c_bind q1 (c_some (c_neg (by rw [aup_at]; exact hx) (c_bind r1 (c_some (c_pos aup_at rfl))))), ((q3.kR.trans (kR_up (by decide))).trans r2).trans (kR_up (by decide)), ?_⟩
      rw [aup_nc (by decide)]; exact r3
    | ok y =>
      rw [e2] at s2
      obtain ⟨M2, r1, r2, r3⟩ := s2
      have s3 := c_num (T := T) hn (CK_up r2 (c := 17) (k := 1) (v := (y.1 : Int)) (by decide) (by decide)) (k := 2) (lo := 0) (hi := 100) (v := 2000002) (a := 0) (b := 100) (by decide) rfl rfl rfl
      have hy : ¬ (((y.1 : Nat) : Int) = -1) := by omega
      show cLn B n 0 _ M A ((sNu B n 2 0 100 y.2).bind _)
      cases e3 : sNu B n 2 0 100 y.2 with
      | error e =>
        rw [e3] at s3
        obtain ⟨M', t1, t2, t3⟩ := s3
        refine ⟨aup M' 17 2 (-1), c_bind q1 (c_some (c_neg (by rw [aup_at]; exact hx) (c_bind r1 (c_some (c_neg (by rw [aup_at]; exact hy) (c_bind t1 (c_some (c_pos aup_at rfl)))))))), ((((q3.kR.trans (kR_up (by decide))).trans r3.kR).trans (kR_up (by decide))).trans t2).trans (kR_up (by decide)), ?_⟩
        rw [aup_nc (by decide)]; exact t3
      | ok z =>
        rw [e3] at s3
        obtain ⟨M3, t1, t2, t3⟩ := s3
        have hz : ¬ (((z.1 : Nat) : Int) = -1) := by omega
        have hk : kA (E0 M x.1 y.1 z.1) (aup M3 17 2 (z.1 : Int)) := kA_up ((kA_up ((kA_up q3).trans r3)).trans t3)
        refine ⟨aup M3 17 2 (z.1 : Int), c_bind q1 (c_some (c_neg (by rw [aup_at]; exact hx) (c_bind r1 (c_some (c_neg (by rw [aup_at]; exact hy) (c_bind t1 (c_some (c_neg (by rw [aup_at]; exact hz) rfl)))))))), CK_up t2 (by decide) (by decide), (cd0 hd hA h0).cong (kA_up hk), ?_, ?_⟩
        · rw [hk 18 (by decide), E0_ne (by decide)]; exact hd.1 0 (by decide)
        · exact ⟨(((kR_up (by decide)).trans (kR_up (by decide))).trans (kR_up (by decide))).trans hk.kR, by rw [hk 16 (by decide)]; simp [E0, nmM, aup]⟩
theorem kR_nm {w j : Nat} : kR M (nmM M A w j) := (((kR_up2 (by decide) (by omega)).trans (kR_up2 (by decide) (by omega))).trans (kR_up (by decide))).trans (kR_up (by decide))
theorem nm_ne {w j m : Nat} (h : m ≠ 31 ∧ m ≠ 32 ∧ m ≠ 33 ∧ m ≠ 16) : nmM M A w j m = M m := by unfold nmM; rw [aup_nc h.2.2.2, aup_nc h.2.2.1, aup_nc h.2.1, aup_nc h.1]
theorem names_15 (hA : WFd A) {j : Nat} (hj : j = 1 ∨ j = 3 ∨ j = 4) (hr : A 0 j < rom j) : A 0 8 < 15 := by
  have h1 := hA.1
  have h2 := hA.2.2.2.2.2.2.2.2.2.2.1
  rcases hj with rfl | rfl | rfl
  · have : A 0 1 < 8 := hr; omega
  · have : A 0 3 < 3 := hr; omega
  · have : A 0 4 < 4 := hr; omega
theorem names_le (hA : WFd A) : A 0 8 ≤ 15 := by
  have h1 := hA.1
  have h2 := hA.2.2.2.2.2.2.2.2.2.2.1
  omega
theorem cl1 (hn : n ≤ 900) (hA : WFd A) (h : CK B n M p) (hd : CD M A) (h0 : A 0 0 = 1) (hr : A 0 1 < rom 1) : cLn B n 1 (f_X7_readCave T M) M A (sl1 B n A p) := by
  have hr8 : A 0 1 < 8 := hr
  have h256 := hA.2.1.2.2.2.1
  unfold sl1 f_X7_readCave
  have s1 := c_new (T := T) hn h hd (names_15 hA (by decide) hr) (j := 1) (by decide)
  cases e1 : sNw B n A p with
  | error e =>
    rw [e1] at s1
    obtain ⟨M', q1, q2⟩ := s1
    exact ⟨M', c_bind q1 (c_pos rfl rfl), q2⟩
  | ok p1 =>
    rw [e1] at s1
    obtain ⟨M1, q1, q2, q3⟩ := s1
    have hw := q2.wrd (T := T) hn (k := 3) (v := 2000003) (by decide) rfl
    have n4 : M1 17 4 = (A 1 3 : Int) := by rw [q3 17 (by decide), nm_ne (by decide)]; exact hd.2.2.1.1
    have n18 : M1 18 1 = (A 0 1 : Int) := by rw [q3 18 (by decide), nm_ne (by decide)]; exact hd.1 1 (by decide)
    show cLn B n 1 _ M A (if isw B n 3 p1 = true then _ else _)
    have fin : ∀ (m : Nat) (M' : aM), kA (E1 M A m (kW B n p)) M' → CD (aup M' 18 1 ((A 0 1 : Int) + 1)) (L1 A m (kW B n p)) ∧ M' 18 1 = (A 0 1 : Int) ∧ kR M M' ∧ M' 16 1 = M 16 1 := by
      intro m M' hk
      refine ⟨(cd1 hd h0).cong (kA_up hk), ?_, (kR_nm.trans (kR_up (by decide))).trans hk.kR, by rw [hk 16 (by decide)]; simp [E1, nmM, aup]⟩
      rw [hk 18 (by decide)]
      unfold E1
      rw [aup_nc (by decide), nm_ne (by decide)]
      exact hd.1 1 (by decide)
    cases hm : isw B n 3 p1
    · rw [if_neg Bool.false_ne_true]
      rw [hm] at hw
      have s2 := c_word (T := T) hn q2 (k := 4) (v := 2000004) (by decide) rfl
      unfold sWd at s2
      cases hdp : isw B n 4 p1
      · rw [hdp, if_neg Bool.false_ne_true] at s2
        rw [if_neg Bool.false_ne_true]
        obtain ⟨M', r1, r2⟩ := s2
        exact ⟨M', c_bind q1 (c_neg (show ¬ ((1 : Int) = 0) by decide) (c_bind hw (c_pos rfl (c_bind r1 (c_ite (Or.inl rfl) rfl))))), (kR_nm.trans q3.kR).trans r2.1, r2.2⟩
      · rw [hdp, if_pos rfl] at s2
        rw [if_pos rfl]
        obtain ⟨M', r1, r2, r3⟩ := s2
        have hk : kA (E1 M A (A 1 3) (kW B n p)) M' := by
          have hse : E1 M A (A 1 3) (kW B n p) = nmM M A (kW B n p) 1 := aup_sf (by rw [nm_ne (by decide)]; exact hd.2.2.1.1)
          rw [hse]
          exact q3.trans r3
        exact ⟨M', c_bind q1 (c_neg (show ¬ ((1 : Int) = 0) by decide) (c_bind hw (c_pos rfl (c_bind r1 (c_ite (Or.inr rfl) rfl))))), r2, fin _ M' hk⟩
    · rw [if_pos rfl]
      rw [hm] at hw
      have s2 := c_word (T := T) hn (CK_up q2 (c := 17) (k := 4) (v := ((A 1 3 ||| 2 ^ A 0 1 : Nat) : Int)) (by decide) (by decide)) (k := 3) (v := 2000003) (by decide) rfl
      unfold sWd at s2
      rw [hm, if_pos rfl] at s2
      obtain ⟨M', r1, r2, r3⟩ := s2
      have hor : aor (M1 17 4) (ashl 1 (M1 18 1)) = ((A 1 3 ||| 2 ^ A 0 1 : Nat) : Int) := by
        rw [n4, n18, ashl_one _ (by omega), aor_nat (by omega) (Nat.pow_lt_pow_right (a := 2) (n := 31) (by decide) (by omega))]
      refine ⟨M', c_bind q1 (c_neg (show ¬ ((1 : Int) = 0) by decide) (c_bind hw (c_neg (by decide) (c_some ?_)))), r2, fin _ M' ((kA_up q3).trans r3)⟩
      show (f_X7_readWord T 2000003 (aup M1 17 4 (aor (M1 17 4) (ashl 1 (M1 18 1))))).bind _ = _
      rw [hor]
      exact c_bind r1 (c_ite (Or.inr rfl) rfl)
theorem c_wayB (hd : CD M A) (hA : WFd A) {a b : Nat} (ha : a < 8) (hb : b < 8) : f_X10_wayBetween T 17 (a : Int) (b : Int) M = some (if wy A a b < A 0 2 then (wy A a b : Int) else -1) := by
  have h10 := hA.1.2.2.1
  have e : M (17 + 5) (8 * a + b) = if wy A a b < A 0 2 then (wy A a b : Int) + 1 else 0 := hd.2.2.2.2.1 a b ha hb
  unfold f_X10_wayBetween
  refine c_ite (by omega) (c_ite (by omega) (c_ite (by omega) ?_))
  rw [show ((a : Int) * 8 + (b : Int)).toNat = 8 * a + b by omega, e]
  by_cases h : wy A a b < A 0 2
  · rw [if_pos h, if_pos h]
    refine c_ite (by omega) ?_
    rw [show (wy A a b : Int) + 1 - 1 = (wy A a b : Int) by omega]
  · rw [if_neg h, if_neg h]
    exact c_ite (by omega) rfl
theorem c_addWay (hd : CD M A) (hA : WFd A) {a b l : Nat} (wet : Bool) (hr : A 0 2 < 10) (ha : a < A 0 1) (hb : b < A 0 1) : f_X10_addWay T 17 (a : Int) (b : Int) (l : Int) (bI wet) M = some (0, E2 M A a b l (if wet = true then A 1 4 ||| 2 ^ A 0 2 else A 1 4)) := by
  have h8 := hA.1.2.1
  have hlt : A 1 4 < 2147483648 := pw31 hA.2.1.2.2.2.2.1 (by omega)
  have e18 : M (17 + 1) 2 = (A 0 2 : Int) := hd.1 2 (by decide)
  have e179 := hd.2.2.1.2.1
  unfold f_X10_addWay
  rw [e18, Int.toNat_natCast, show ((a : Int) * 8 + (b : Int)).toNat = 8 * a + b by omega, show ((b : Int) * 8 + (a : Int)).toNat = 8 * b + a by omega]
  refine c_ite (by omega) (c_some (c_some (c_some (c_ite (by omega) (c_ite (by omega) (c_ite (by omega) (c_ite (by omega) (c_some (c_ite (by omega) (c_ite (by omega) (c_ite (by omega) (c_some ?_))))))))))))
  have i1 : (if (b : Int) < (a : Int) then (b : Int) else (a : Int)) = ((if b < a then b else a : Nat) : Int) := by split <;> split <;> omega
  have i2 : (if (b : Int) < (a : Int) then (a : Int) else (b : Int)) = ((if b < a then a else b : Nat) : Int) := by split <;> split <;> omega
  rw [i1, i2]
  have e9 : ∀ x1 x2 x3 x4 x5 : Int, aup (aup (aup (aup (aup M (17 + 2) (A 0 2) x1) (17 + 3) (A 0 2) x2) (17 + 4) (A 0 2) x3) (17 + 5) (8 * a + b) x4) (17 + 5) (8 * b + a) x5 17 9 = (A 1 4 : Int) := fun x1 x2 x3 x4 x5 => by
    rw [aup_nc (by decide), aup_nc (by decide), aup_nc (by decide), aup_nc (by decide), aup_nc (by decide)]; exact e179
  cases wet
  · rw [if_neg Bool.false_ne_true]
    refine c_pos rfl ?_
    unfold E2
    rw [aup_sf (e9 _ _ _ _ _)]
  · rw [if_pos rfl]
    refine c_neg (by decide) ?_
    rw [e9, ashl_one _ (by omega), aor_nat hlt (Nat.pow_lt_pow_right (a := 2) (n := 31) (by decide) (by omega))]
    rfl
theorem cl2 (hn : n ≤ 900) (hA : WFd A) (h : CK B n M p) (hd : CD M A) (h0 : A 0 0 = 1) (hr : A 0 2 < rom 2) : cLn B n 2 (f_X7_readWay T M) M A (sl2 B n A p) := by
  have hr10 : A 0 2 < 10 := hr
  have h8 := hA.1.2.1
  unfold sl2 f_X7_readWay
  have s1 := c_first (T := T) hn h hd (names_le hA)
  cases e1 : sCv B n A p with
  | error e =>
    rw [e1] at s1
    obtain ⟨M', q1, q2⟩ := s1
    exact ⟨M', c_bind q1 (c_pos rfl rfl), q2⟩
  | ok a =>
    rw [e1] at s1
    obtain ⟨M1, q1, q2, q3⟩ := s1
    have ha := sCv_ok hA e1
    have hd1 := hd.cong q3
    have hane : ¬ ((a : Int) = -1) := by omega
    have s2 := c_cave2 (T := T) hn q2 hd1 (names_le hA)
    show cLn B n 2 _ M A ((sCv B n A (kX B n p)).bind _)
    cases e2 : sCv B n A (kX B n p) with
    | error e =>
      rw [e2] at s2
      obtain ⟨M', r1, r2⟩ := s2
      exact ⟨M', c_bind q1 (c_neg hane (c_bind r1 (c_pos rfl rfl))), q3.kR.trans r2.1, r2.2⟩
    | ok b =>
      rw [e2] at s2
      have hb := sCv_ok hA e2
      have hbne : ¬ ((b : Int) = -1) := by omega
      show cLn B n 2 _ M A (if b = a ∨ wy A a b < A 0 2 then _ else _)
      have hwb := c_wayB (T := T) hd1 hA (a := a) (b := b) (by omega) (by omega)
      by_cases hbad : b = a ∨ wy A a b < A 0 2
      · rw [if_pos hbad]
        obtain ⟨M', r1, r2⟩ := c_fail (T := T) q2 3
        refine ⟨M', c_bind q1 (c_neg hane (c_bind s2 (c_neg hbne ?_))), q3.kR.trans r2.1, r2.2⟩
        by_cases hba : b = a
        · exact c_pos (by show (b : Int) = (a : Int); omega) r1
        · refine c_neg (by show ¬ (b : Int) = (a : Int); omega) (c_bind hwb ?_)
          rw [if_pos (hbad.resolve_left hba)]
          exact c_neg (by omega) r1
      · rw [if_neg hbad]
        have hba : b ≠ a := fun e => hbad (Or.inl e)
        have hnw : ¬ wy A a b < A 0 2 := fun e => hbad (Or.inr e)
        rw [if_neg hnw] at hwb
        obtain ⟨M2, r1, r2, r3⟩ := q2.adv (T := T) hn
        have s3 := c_num (T := T) hn r2 (k := 5) (lo := 1) (hi := 20) (v := 2000005) (a := 1) (b := 20) (by decide) rfl rfl rfl
        cases e3 : sNu B n 5 1 20 (kX B n (kX B n p)) with
        | error e =>
          rw [e3] at s3
          obtain ⟨M', t1, t2⟩ := s3
          exact ⟨M', c_bind q1 (c_neg hane (c_bind s2 (c_neg hbne (c_neg (by show ¬ (b : Int) = (a : Int); omega) (c_bind hwb (c_pos rfl (c_bind r1 (c_bind t1 (c_pos rfl rfl))))))))), (q3.kR.trans (kA.kR r3)).trans t2.1, t2.2⟩
        | ok x =>
          rw [e3] at s3
          obtain ⟨M3, t1, t2, t3⟩ := s3
          have hxne : ¬ ((x.1 : Int) = -1) := by omega
          have k3 : kA M M3 := (q3.trans r3).trans t3
          have hd3 := hd.cong k3
          have hw6 := t2.wrd (T := T) hn (k := 6) (v := 2000006) (by decide) rfl
          have hbc : f_J6_bitCount_0f7a4 T (M3 17 9) M3 = some ((cntp (A 1 4).testBit 16 : Nat) : Int) := by
            rw [hd3.2.2.1.2.1]
            exact h_bitCount (Nat.lt_of_lt_of_le hA.2.1.2.2.2.2.1 (Nat.pow_le_pow_right (n := 2) (j := 16) (by decide) (by omega)))
          have pre : ∀ y, ((f_X9_isWord T 2000006 M3).bind fun x29 =>
              if x29 = 0 then
              (f_X10_addWay T 17 (a : Int) (b : Int) (x.1 : Int) x29 M3).bind fun x32 =>
              if x29 = 0 then
              (f_X7_readWord T 2000007 x32.2).bind fun x37 =>
              if x37.1 = 0 ∨ x37.1 = 1 then
              some (x37.1, x37.2) else none else
              (f_X7_readWord T 2000006 x32.2).bind fun x42 =>
              if x42.1 = 0 ∨ x42.1 = 1 then
              some (x42.1, x42.2) else none else
              (f_J6_bitCount_0f7a4 T (M3 17 9) M3).bind fun x47 =>
              if x47 < 6 then
              (f_X10_addWay T 17 (a : Int) (b : Int) (x.1 : Int) x29 M3).bind fun x50 =>
              if x29 = 0 then
              (f_X7_readWord T 2000007 x50.2).bind fun x55 =>
              if x55.1 = 0 ∨ x55.1 = 1 then
              some (x55.1, x55.2) else none else
              (f_X7_readWord T 2000006 x50.2).bind fun x60 =>
              if x60.1 = 0 ∨ x60.1 = 1 then
              some (x60.1, x60.2) else none else
              (f_X7_fails T 5 M3).bind fun x65 =>
              if x65.1 = 0 ∨ x65.1 = 1 then
              some (x65.1, x65.2) else none) = y → f_X7_readWay T M = y := by
            intro y hy
            unfold f_X7_readWay
            exact c_bind q1 (c_neg hane (c_bind s2 (c_neg hbne (c_neg (by show ¬ (b : Int) = (a : Int); omega) (c_bind hwb (c_pos rfl (c_bind r1 (c_bind t1 (c_neg hxne hy)))))))))
          have fin : ∀ (m : Nat) (M' : aM), kA (E2 M A a b x.1 m) M' → CD (aup M' 18 2 ((A 0 2 : Int) + 1)) (L2 A a b x.1 m) ∧ M' 18 2 = (A 0 2 : Int) ∧ kR M M' ∧ M' 16 1 = M 16 1 := by
            intro m M' hk
            refine ⟨(cd2 hd h0 hA ha hb hba hnw).cong (kA_up hk), ?_, ((((((kR_up (by decide)).trans (kR_up (by decide))).trans (kR_up (by decide))).trans (kR_up (by decide))).trans (kR_up (by decide))).trans (kR_up (by decide))).trans hk.kR, by rw [hk 16 (by decide)]; simp [E2, nmM, aup]⟩
            rw [hk 18 (by decide)]
            unfold E2
            rw [aup_nc (by decide), aup_nc (by decide), aup_nc (by decide), aup_nc (by decide), aup_nc (by decide), aup_nc (by decide)]
            exact hd.1 2 (by decide)
          have e2k : ∀ m, kA (E2 M A a b x.1 m) (E2 M3 A a b x.1 m) := fun m => kA_up (kA_up (kA_up (kA_up (kA_up (kA_up k3)))))
          have ck2 : ∀ m, CK B n (E2 M3 A a b x.1 m) x.2 := fun m => CK_up (CK_up (CK_up (CK_up (CK_up (CK_up t2 (by decide) (by decide)) (by decide) (by decide)) (by decide) (by decide)) (by decide) (by decide)) (by decide) (by decide)) (by decide) (by decide)
          show cLn B n 2 (f_X7_readWay T M) M A (if isw B n 6 x.2 = true then _ else _)
          cases hm : isw B n 6 x.2
          · rw [if_neg Bool.false_ne_true]
            rw [hm] at hw6
            have hadd := c_addWay (T := T) (l := x.1) hd3 hA false hr10 ha hb
            rw [if_neg Bool.false_ne_true] at hadd
            have s4 := c_word (T := T) hn (ck2 (A 1 4)) (k := 7) (v := 2000007) (by decide) rfl
            unfold sWd at s4
            cases hm7 : isw B n 7 x.2
            · rw [hm7, if_neg Bool.false_ne_true] at s4
              rw [if_neg Bool.false_ne_true]
              obtain ⟨M', u1, u2⟩ := s4
              refine ⟨M', pre _ (c_bind hw6 (c_pos rfl (c_bind hadd (c_pos rfl (c_bind u1 (c_ite (Or.inl rfl) rfl)))))), ?_, u2.2⟩
              exact (k3.kR.trans ((((((kR_up (by decide)).trans (kR_up (by decide))).trans (kR_up (by decide))).trans (kR_up (by decide))).trans (kR_up (by decide))).trans (kR_up (by decide)))).trans u2.1
            · rw [hm7, if_pos rfl] at s4
              rw [if_pos rfl]
              obtain ⟨M', u1, u2, u3⟩ := s4
              exact ⟨M', pre _ (c_bind hw6 (c_pos rfl (c_bind hadd (c_pos rfl (c_bind u1 (c_ite (Or.inr rfl) rfl)))))), u2, fin _ M' ((e2k _).trans u3)⟩
          · rw [if_pos rfl]
            rw [hm] at hw6
            by_cases hc6 : cntp (A 1 4).testBit 16 < 6
            · rw [if_pos hc6]
              have hadd := c_addWay (T := T) (l := x.1) hd3 hA true hr10 ha hb
              rw [if_pos rfl] at hadd
              have s4 := c_word (T := T) hn (ck2 (A 1 4 ||| 2 ^ A 0 2)) (k := 6) (v := 2000006) (by decide) rfl
              unfold sWd at s4
              rw [hm, if_pos rfl] at s4
              obtain ⟨M', u1, u2, u3⟩ := s4
              exact ⟨M', pre _ (c_bind hw6 (c_neg (by decide) (c_bind hbc (c_pos (by omega) (c_bind hadd (c_neg (by decide) (c_bind u1 (c_ite (Or.inr rfl) rfl)))))))), u2, fin _ M' ((e2k _).trans u3)⟩
            · rw [if_neg hc6]
              obtain ⟨M', u1, u2⟩ := c_fail (T := T) t2 5
              exact ⟨M', pre _ (c_bind hw6 (c_neg (by decide) (c_bind hbc (c_neg (by omega) u1)))), k3.kR.trans u2.1, u2.2⟩
end Cln
