/-! ===== feed, well, led: the invariant kept ===== -/
section Tww
variable {T : T3} {M M1 M2 : aM} {A : aA} {st s1 : aT}
theorem CA.same1 (h : CA M A st) (e : ∀ n, 1 < n → n < 16 ∨ (34 < n ∧ n < 45) ∨ (58 < n ∧ n < 138) → M1 n = M n) : CA M1 A st := by
  obtain ⟨⟨a, b, c, d, f, g⟩, r, i, l1, l2⟩ := h
  exact ⟨⟨a, b, c.far fun m _ _ => e m (by omega) (by omega), d.cong fun m _ _ => e m (by omega) (by omega), f.cong fun m _ _ => e m (by omega) (by omega), g.cong fun m _ _ => e m (by omega) (by omega)⟩, RG_same r (fun n _ _ => e n (by omega) (by omega)), IG_same l2 i (by rw [e 59 (by decide) (by decide)]) (fun n _ _ => e n (by omega) (by omega)), l1, l2⟩
/-- the model's well and state untouched; there may be more wells -/
theorem MA.more {n n2 : Nat} (h : MA n M A st) (hn : n ≤ n2) (e1 : ∀ k, k = 3 ∨ k = 20 ∨ k = 21 → M1 138 k = M 138 k) (e2 : ∀ m, m = 140 ∨ m = 142 ∨ m = 143 ∨ (153 < m ∧ m < n) → M1 m = M m) : MA n2 M1 A st := by
  obtain ⟨⟨a, b, c, d⟩, ⟨p1, p2⟩, ⟨q1, q2⟩, r⟩ := h
  refine ⟨⟨a, b, ?_, by rw [e2 140 (by omega)]; exact d⟩, ⟨by rw [e1 20 (by decide)]; exact p1, by rw [e2 142 (by omega)]; exact p2⟩, ⟨by rw [e1 21 (by decide)]; exact q1, by rw [e2 143 (by omega)]; exact q2⟩, r⟩
  rcases c with ⟨h0, h3⟩ | ⟨h0, w, m1, m2, m3⟩
  · exact Or.inl ⟨h0, (e1 3 (by decide)).trans h3⟩
  · obtain ⟨o1, o2, o3⟩ := m2
    exact Or.inr ⟨h0, w, (e1 3 (by decide)).trans m1, ⟨o1, o2, by omega⟩, m3.cong fun m _ _ => e2 m (by omega)⟩
theorem fb_rng (V : Nat → Int) (i : Nat) : -128 ≤ fb V i ∧ fb V i < 128 := ai2b_rng _
theorem tw_feed (h : Lst T M A st) (v1 v2 v3 v4 v5 : Int) : Twn 114 234 0 [(0, v1), (0, v2), (0, v3), (0, v4), (0, v5)] M T := by
  obtain ⟨hA, hg, hc, hm, hw, ht⟩ := h.2.1
  obtain ⟨⟨tp, t0, t1, t2, t3⟩, t4, t5, t6⟩ := ht
  have hf := c_feed (T := T.1) t0 t1 v1 v2 v3 v4 v5
  by_cases hq : 880 < tp
  · have e1 := hf.1 hq
    have e2 := (m_feed (T := T.1) t0 t2 v1 v2 v3 v4 v5).1 hq
    obtain ⟨r1, -⟩ := t_X11_feed h.1 e1
    obtain ⟨r2, z2⟩ := t_X13_feed h.1 e2
    exact tw_p h r1 (by decide) r2 (by decide) z2
  · obtain ⟨M1, e1, a1, a2, a3, a4, a5⟩ := hf.2 (by omega)
    have t21 : M1 138 6 = (tp : Int) := by rw [a3 138 (by decide) (by decide)]; exact t2
    obtain ⟨M2, e2, b1, b2, b3, b4, b5⟩ := (m_feed (T := T.1) t0 t21 v1 v2 v3 v4 v5).2 (by omega)
    obtain ⟨r1, z1⟩ := t_X11_feed h.1 e1
    obtain ⟨r2, z2⟩ := t_X13_feed z1 e2
    have f1 : ∀ m, m ≠ 0 → m ≠ 1 → m ≠ 138 → m ≠ 139 → M2 m = M m := fun m h0 h1 h2 h3 => by rw [b3 m h2 h3, aup_nc h2, a3 m h0 h1]
    have f2 : ∀ k, k ≠ 6 → k ≠ 0 → M2 138 k = M 138 k := fun k h6 h0 => by rw [b2 k h6, aup_ne2 h0, a3 138 (by decide) (by decide)]
    have f3 : ∀ k, k ≠ 1 → M2 0 k = M 0 k := fun k h1 => by rw [b3 0 (by decide) (by decide), aup_nc (by decide), a2 k h1]
    refine ⟨_, M1, M2, T, fun d hd => r1 d (by omega), fun d hd => r2 d (by omega), a3 _ (by decide) (by decide), Kp.stay h z2 (s1 := st) ⟨hA, hg, hc.same1 fun n _ _ => f1 n (by omega) (by omega) (by omega) (by omega), hm.more (Nat.le_refl _) (fun k hk => f2 k (by omega) (by omega)) (fun m hm => f1 m (by omega) (by omega) (by omega) (by omega)), hw.same (f1 31 (by decide) (by decide) (by decide) (by decide)) (f1 32 (by decide) (by decide) (by decide) (by decide)), ⟨tp + 20, by omega, ?_, b1, fun k hk => ?_⟩, ?_, ?_, ?_⟩ (f1 _ (by decide) (by decide) (by decide) (by decide))⟩
    · rw [b3 0 (by decide) (by decide), aup_nc (by decide)]; exact a1
    · have e1' : M2 1 k = M1 1 k := by rw [b3 1 (by decide) (by decide), aup_nc (by decide)]
      rw [e1']
      by_cases hk2 : k < tp
      · rw [a4 k hk2, b4 k hk2, aup_nc (by decide), a3 139 (by decide) (by decide)]
        exact t3 k hk2
      · have x1 := a5 (k - tp) (by omega)
        have x2 := b5 (k - tp) (by omega)
        rw [show tp + (k - tp) = k by omega] at x1 x2
        rw [x1, x2]
        exact ⟨rfl, fb_rng _ _⟩
    · rw [f3 14 (by decide), f2 1 (by decide) (by decide)]; exact t4
    · rw [f3 14 (by decide), f2 2 (by decide) (by decide), f1 16 (by decide) (by decide) (by decide) (by decide)]; exact t5
    · rw [f2 12 (by decide) (by decide), f1 16 (by decide) (by decide) (by decide) (by decide)]; exact t6
theorem rm_rom (hS : Sh T.1 M) : ∀ k, k < 8 → M 1000001 k = (rom k : Int) := fun k hk => by
  rw [hS.2.2.2 k hk]
  have : ∀ k, k < 8 → rmA.getD k 0 = (rom k : Int) := by decide +kernel
  exact this k hk
theorem tw_well (h : Lst T M A st) (v : Int) : Twn 115 235 0 [(0, v)] M T := by
  obtain ⟨hS, hI, hT, hT2⟩ := h
  obtain ⟨hA, hg, hc, hm, hw, ht⟩ := hI
  obtain ⟨⟨tp, t0, t1, t2, t3⟩, t4, t5, t6⟩ := ht
  have h154 := hS.1.1
  have hcw := c_well (T := T.1) hw (rm_rom hS) t0 t1 v
  by_cases hv : 0 ≤ v ∧ v ≤ (tp : Int)
  · obtain ⟨n, rfl, hn⟩ : ∃ n : Nat, v = (n : Int) ∧ n ≤ tp := ⟨v.toNat, by omega, by omega⟩
    obtain ⟨M1, e1, w1, w2, w3, w4, w5⟩ := hcw.2 n rfl hn (M 1) (fun _ _ => rfl)
    obtain ⟨r1, z1⟩ := t_X11_well hS e1
    have z1 : Sh T.1 M1 := z1
    have b139 : ∀ k, k < n → M1 139 k = M 1 k ∧ -128 ≤ M 1 k ∧ M 1 k < 128 := fun k hk => by
      have := t3 k (by omega)
      rw [w1 139 (by decide)]
      exact ⟨this.1.symm, this.2⟩
    obtain ⟨M2, e2, u1, u2, u3⟩ := m_well (T := T.1) (M := M1) ⟨h154, hT⟩ (by omega) b139
    obtain ⟨r2, z2⟩ := t_X13_wellG z1 hT hT2 (by omega) (by rw [w1 138 (by decide)]; omega) e2
    have f1 : ∀ m, m < 138 → M2 m = M1 m := fun m hm => u1 m (by omega) (by omega) (by omega)
    have f2 : ∀ m, m = 139 ∨ (140 < m ∧ m < T.1) → M2 m = M m := fun m hm => by rw [u1 m (by omega) (by omega) (by omega), w1 m (by omega)]
    have x6 : M2 1000000 = M 1000000 := by rw [u1 1000000 (by decide) (by decide) (by omega), w1 1000000 (by decide)]
    have hwd : wds M2 := fun i hi => by
      rw [f1 31 (by decide), f1 32 (by decide), (w2 i hi).1, (w2 i hi).2]
      exact hw i hi
    have tz : ∃ tp : Nat, tp ≤ 900 ∧ M2 0 1 = (tp : Int) ∧ M2 138 6 = (tp : Int) ∧ ∀ k, k < tp → M2 1 k = M2 139 k ∧ -128 ≤ M2 1 k ∧ M2 1 k < 128 := ⟨0, by omega, by rw [f1 0 (by decide)]; exact w3, u2, fun k hk => absurd hk (Nat.not_lt_zero k)⟩
    have fin : (∃ A st, IV (T.1 + 15) M2 A st) → Twn 115 235 0 [(0, (n : Int))] M T := fun hi => ⟨_, M1, M2, nwT T 14, fun d hd => r1 d (by omega), fun d hd => r2 d (by omega), w1 _ (by decide), z2, hi, x6, by show (T.1 + 1 + 14 - 154) % 15 = 0; omega, by show T.1 + 1 + 14 ≤ T.1 + 15; omega, by show T.2.1 + 1 + 14 ≤ T.2.1 + 16; omega, by show T.2.2 + 28 + 107 ≤ T.2.2 + 141; omega⟩
    apply fin
    cases hs : sAll (M 1) n 1000 (fun _ _ => 0) (spq (M 1) n 0) with
    | error er =>
      rw [hs] at w5 u3
      obtain ⟨g1, g2, g3, g4⟩ := w5
      obtain ⟨k1, k2, k3, k4, k5⟩ := u3
      have k138 : ∀ k, k = 3 ∨ k = 20 ∨ k = 21 → M2 138 k = M 138 k := fun k hk => by rw [k2 k (by omega), w1 138 (by decide)]
      refine ⟨A, st, hA, hg, hc.same1 fun m _ _ => by rw [f1 m (by omega), g1 m (by omega)], hm.more (n2 := T.1 + 15) (by omega) k138 (fun m hq => ?_), hwd, tz, ?_, ?_, ?_⟩
      · rcases hq with rfl | hq
        · rw [k1, w1 140 (by decide)]
        · exact f2 m (by omega)
      · rw [f1 0 (by decide), g4, k3]
      · rw [f1 0 (by decide), f1 16 (by decide), g4, if_pos rfl, k4, g3]
      · rw [f1 16 (by decide), g2, k5]
    | ok A' =>
      rw [hs] at w5 u3
      obtain ⟨g1, g2, g3, g4, g5, g6, g7, g8⟩ := w5
      obtain ⟨k1, k2, k3, k4, k5, k6, k7, k8⟩ := u3
      obtain ⟨hA', hA1⟩ := sAll_ok 1000 _ _ WFd.zero (spq_le (Nat.zero_le n)).2 hs
      have hws := st0_ws hA' k3
      have hd : dS (M2 140) = dry (A' 1 4) := by
        show dry (M2 140 10).toNat = _
        rw [k3.2.2.2.1, Int.toNat_natCast]
      have e59 : M2 59 = M1 59 := f1 59 (by decide)
      obtain ⟨np, n1, n2, -⟩ := hc.2.1.2
      refine ⟨A', (M2 140, 0, 0, fun _ _ => 0, fun _ _ => 0), hA', ⟨hws, Nat.zero_le _, Nat.zero_le _, fun h0 => absurd h0 (by omega), fun i hi => absurd hi (Nat.not_lt_zero i), fun i hi => absurd hi (Nat.not_lt_zero i)⟩, ⟨⟨hA', hws, g1.far fun m _ _ => f1 m (by omega), (g2 _ k3).cong fun m _ _ => f1 m (by omega), ?_, g4.cong fun m _ _ => f1 m (by omega)⟩, ⟨by rw [e59]; exact g5, np, n1, by rw [e59, w4]; exact n2, fun i hi => absurd hi (Nat.not_lt_zero i)⟩, ⟨by rw [e59]; exact g6, fun i hi => absurd hi (Nat.not_lt_zero i)⟩, Nat.zero_le _, Nat.zero_le _⟩, ⟨⟨hA', hws, Or.inr ⟨hA1, T.1, k1, ⟨by omega, by omega, by omega⟩, k2⟩, fun _ _ => rfl⟩, ⟨k4, fun i k hi => absurd hi (Nat.not_lt_zero i)⟩, ⟨k5, fun i k hi => absurd hi (Nat.not_lt_zero i)⟩, Nat.zero_le _, Nat.zero_le _, fun h0 => absurd h0 (by omega)⟩, hwd, tz, ?_, ?_, ?_⟩
      · show LD M2 39 A' (dS (M2 140))
        rw [hd]
        exact g3.cong fun m _ _ => f1 m (by omega)
      · rw [f1 0 (by decide), g8, k6]
      · rw [f1 0 (by decide), g8, if_neg (by decide)]; exact k7
      · rw [f1 16 (by decide), g7, k8]
  · have e1 := hcw.1 hv
    obtain ⟨r1, z1⟩ := t_X11_well hS e1
    have z1 : Sh T.1 (aup M 0 14 2) := z1
    have e6 : aup M 0 14 2 138 6 = (tp : Int) := by rw [aup_nc (by decide)]; exact t2
    have r2 := t_X13_wellR (T := T) (v := v) z1 (by rw [e6]; omega)
    have q1 : qC M (aup M 0 14 2) 2 := qC_up (sC.refl M)
    have q2 : qM (aup M 0 14 2) (aup (aup (aup (aup M 0 14 2) 138 0 0) 138 1 2) 138 2 (-1)) 2 (-1) := qM_up (sM_fl (by omega))
    refine ⟨-1, aup M 0 14 2, _, T, fun d hd => r1 d (by omega), fun d hd => r2 d (by omega), aup_nc (by decide), Kp.stay ⟨hS, ⟨hA, hg, hc, hm, hw, ⟨tp, t0, t1, t2, t3⟩, t4, t5, t6⟩, hT, hT2⟩ (((z1.fld (by decide)).fld (by decide)).fld (by decide)) (IV.qry (st := st) ⟨hA, hg, hc, hm, hw, ⟨tp, t0, t1, t2, t3⟩, t4, t5, t6⟩ q1 q2 (by decide)) ?_⟩
    rw [aup_nc (by decide), aup_nc (by decide), aup_nc (by decide), aup_nc (by decide)]
/-! led -/
theorem IV.long {n : Nat} {x : Int} (h : IV n M A st) : IV n (aup M 153 0 x) A st := by
  obtain ⟨hA, hg, hc, hm, hw, ht⟩ := h
  have e : ∀ m, m ≠ 153 → aup M 153 0 x m = M m := fun m hm => aup_nc hm
  exact ⟨hA, hg, hc.same fun m _ _ => e m (by omega), hm.more (Nat.le_refl _) (fun k _ => by rw [e 138 (by decide)]) (fun m hm => e m (by omega)), hw.same (e 31 (by decide)) (e 32 (by decide)), ht.same (e 0 (by decide)) (fun k _ => by rw [e 138 (by decide)]) (e 1 (by decide)) (e 139 (by decide)) (e 16 (by decide))⟩
theorem Sh.long {n : Nat} {x : Int} (h : Sh n M) : Sh n (aup M 153 0 x) := h.up (Or.inl (by decide)) (by decide)
/-- led: told, or thrown -/
theorem tw_led (h : Lst T M A st) (v : Int) : (∃ (x : Int) (M2 : aM), (∀ d, 3 ≤ d → Ms d 167 [(2, ((0 : Nat) : Int)), (0, v)] (M, T) (some (0, x)) (M, T)) ∧ (∀ d, 3 ≤ d → Ms d 330 [(2, ((138 : Nat) : Int)), (0, v)] (aup M 153 0 x, T) (some (0, x)) (M2, T)) ∧ M2 138 0 = 0 ∧ M2 153 0 = x ∧ Kp T T M M2) ∨ (∃ (x : Int) (M2 : aM), (∀ d, 3 ≤ d → Ms d 167 [(2, ((0 : Nat) : Int)), (0, v)] (M, T) (some (7, 0)) (M, T.1, T.2.1 + 1, T.2.2 + 6)) ∧ (∀ d, 3 ≤ d → Ms d 330 [(2, ((138 : Nat) : Int)), (0, v)] (M, T.1, T.2.1 + 1, T.2.2 + 6) (some (0, x)) (M2, T.1, T.2.1 + 1, T.2.2 + 6)) ∧ M2 138 0 = 1 ∧ Kp T (T.1, T.2.1 + 1, T.2.2 + 6) M M2) := by
  have hI := h.2.1
  have hcq := hI.2.2.1.1
  by_cases hk : ldk A st.1 v < A 0 3
  · have hI2 : IV T.1 (aup M 153 0 (ldk A st.1 v : Int)) A st := hI.long
    have hS2 : Sh T.1 (aup M 153 0 (ldk A st.1 v : Int)) := h.1.long
    obtain ⟨M2, e2, s2, o2⟩ := m_led (T := T.1) hI2.2.2.2.1.1 v
    rw [if_pos hk] at e2 o2
    obtain ⟨r2, z2⟩ := t_X13_led hS2 e2
    refine Or.inl ⟨_, M2, fun d hd => (c_led h.1 hcq v hd).1 hk, fun d hd => r2 d (by omega), o2, ?_, Kp.stay h z2 (hI2.asks s2) ?_⟩
    · rw [s2.2 153 (by omega)]; exact aup_at
    · rw [s2.2 1000000 (by omega), aup_nc (by decide)]
  · obtain ⟨M2, e2, s2, o2⟩ := m_led (T := T.1) hI.2.2.2.1.1 v
    rw [if_neg hk] at e2 o2
    obtain ⟨r2, z2⟩ := t_X13_led (T := (T.1, T.2.1 + 1, T.2.2 + 6)) h.1 e2
    exact Or.inr ⟨_, M2, fun d hd => (c_led h.1 hcq v hd).2 hk, fun d hd => r2 d (by omega), o2, z2, ⟨A, st, hI.asks s2⟩, s2.2 1000000 (by omega), h.2.2.1, by show T.1 ≤ T.1 + 15; omega, by show T.2.1 + 1 ≤ T.2.1 + 16; omega, by show T.2.2 + 6 ≤ T.2.2 + 141; omega⟩
end Tww
