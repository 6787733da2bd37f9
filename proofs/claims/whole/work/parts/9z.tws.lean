/-! ===== each call of the law: the class and the model answer alike, and the invariant is kept ===== -/
def Kp (T T2 : T3) (M M2 : aM) : Prop := Sh T2.1 M2 ∧ (∃ A st, IV T2.1 M2 A st) ∧ M2 1000000 = M 1000000 ∧ (T2.1 - 154) % 15 = 0 ∧ T2.1 ≤ T.1 + 15 ∧ T2.2.1 ≤ T.2.1 + 16 ∧ T2.2.2 ≤ T.2.2 + 141
def Lst (T : T3) (M : aM) (A : aA) (st : aT) : Prop := Sh T.1 M ∧ IV T.1 M A st ∧ (T.1 - 154) % 15 = 0 ∧ T.1 + 15 ≤ 1000000
/-- the class answers x, and then the model does -/
def Twn (j1 j2 t : Nat) (as : List aV) (M : aM) (T : T3) : Prop := ∃ (x : Int) (M1 M2 : aM) (T2 : T3), (∀ d, 16 ≤ d → Ms d j1 ((2, ((0 : Nat) : Int)) :: as) (M, T) (some (t, x)) (M1, T)) ∧ (∀ d, 16 ≤ d → Ms d j2 ((2, ((138 : Nat) : Int)) :: as) (M1, T) (some (t, x)) (M2, T2)) ∧ M1 1000000 = M 1000000 ∧ Kp T T2 M M2
section Tws
variable {T : T3} {M M1 M2 : aM} {A : aA} {st s1 : aT}
theorem Kp.stay (h : Lst T M A st) (hS : Sh T.1 M2) (hI : IV T.1 M2 A s1) (e : M2 1000000 = M 1000000) : Kp T T M M2 := ⟨hS, ⟨A, s1, hI⟩, e, h.2.2.1, by omega, by omega, by omega⟩
theorem tw_q {j1 j2 t K1 K2 : Nat} {as : List aV} {r : Int × Int} (h : Lst T M A st) (r1 : Mr K1 j1 ((2, ((0 : Nat) : Int)) :: as) M (some (t, r.1)) M1 T) (k1 : K1 ≤ 16) (q1 : qC M M1 r.2) (r2 : Mr K2 j2 ((2, ((138 : Nat) : Int)) :: as) M1 (some (t, r.1)) M2 T) (k2 : K2 ≤ 16) (s2 : Sh T.1 M2) (q2 : qM M1 M2 r.2 (-1)) (h4 : r.2 ≠ 4) : Twn j1 j2 t as M T := by
  have e : M1 1000000 = M 1000000 := q1.2.2 1000000 (by decide) (by decide)
  exact ⟨r.1, M1, M2, T, fun d hd => r1 d (by omega), fun d hd => r2 d (by omega), e, Kp.stay h s2 (h.2.1.qry q1 q2 h4) ((q2.2.2.2 1000000 (by decide)).trans e)⟩
theorem tw_a {j1 j2 t K1 K2 : Nat} {as : List aV} {r : Int × Int} (h : Lst T M A st) (hg : gdS A s1 ∧ r.2 ≠ 4) (r1 : Mr K1 j1 ((2, ((0 : Nat) : Int)) :: as) M (some (t, r.1)) M1 T) (k1 : K1 ≤ 16) (c : CS M1 35 A s1.1 ∧ LD M1 39 A (dS s1.1) ∧ RG M1 A s1.2.1 s1.2.2.2.1 ∧ IG M1 A s1.2.2.1 s1.2.2.2.2 ∧ M1 0 14 = r.2 ∧ (∀ k, k ≠ 14 → M1 0 k = M 0 k) ∧ ∀ n, (0 < n ∧ n < 35) ∨ (41 < n ∧ n < 45) ∨ 137 < n → M1 n = M n) (r2 : Mr K2 j2 ((2, ((138 : Nat) : Int)) :: as) M1 (some (t, r.1)) M2 T) (k2 : K2 ≤ 16) (s2 : Sh T.1 M2) (m : (∀ k, k < 12 → M2 140 k = s1.1 k) ∧ PG M2 s1.2.1 s1.2.2.2.1 ∧ QG M2 s1.2.2.1 s1.2.2.2.2 ∧ M2 138 1 = r.2 ∧ M2 138 2 = -1 ∧ kM M1 M2) : Twn j1 j2 t as M T := by
  obtain ⟨c1, c2, c3, c4, c5, c6, c7⟩ := c
  obtain ⟨m1, m2, m3, m4, m5, m6⟩ := m
  have e : M1 1000000 = M 1000000 := c7 1000000 (by decide)
  exact ⟨r.1, M1, M2, T, fun d hd => r1 d (by omega), fun d hd => r2 d (by omega), e, Kp.stay h s2 (h.2.1.act hg.1 hg.2 c1 c2 c3 c4 c5 c6 c7 m1 m2 m3 m4 m5 m6) ((m6.2 1000000 (by omega)).trans e)⟩
theorem gd_ne4 {p : Prop} [Decidable p] {v : Int} : (gd p v 1).2 ≠ 4 := by
  unfold gd
  split
  · show (0 : Int) ≠ 4; decide
  · show (1 : Int) ≠ 4; decide
theorem if_ne4 {p q : Prop} [Decidable p] [Decidable q] {v : Int} : (if p then (if q then ((v, 0) : Int × Int) else (-1, 2)) else (-1, 1)).2 ≠ 4 := by
  split
  · split
    · show (0 : Int) ≠ 4; decide
    · show (2 : Int) ≠ 4; decide
  · show (1 : Int) ≠ 4; decide
theorem fw_ne4 {f : Int} {v w : Int} : (if fwh A f = 0 then ((v, 0) : Int × Int) else (w, fwh A f)).2 ≠ 4 := by
  split
  · show (0 : Int) ≠ 4; decide
  · show fwh A f ≠ 4
    unfold fwh
    split
    · split <;> decide
    · decide
theorem tw_cave (h : Lst T M A st) (c what : Int) : Twn 118 255 0 [(0, c), (0, what)] M T := by
  obtain ⟨M1, e1, q1⟩ := c_cave (T := T.1) h.2.1.2.2.1.1 c what
  obtain ⟨r1, z1⟩ := t_X11_cave h.1 e1
  obtain ⟨M2, e2, q2⟩ := m_cave (T := T.1) (h.2.1.md1 q1) c what
  obtain ⟨r2, z2⟩ := t_X13_cave z1 e2
  exact tw_q h r1 (by decide) q1 r2 (by decide) z2 q2 gd_ne4
theorem tw_way (h : Lst T M A st) (v what : Int) : Twn 119 256 0 [(0, v), (0, what)] M T := by
  obtain ⟨M1, e1, q1⟩ := c_way (T := T.1) h.2.1.2.2.1.1 v what
  obtain ⟨r1, z1⟩ := t_X11_way h.1 e1
  obtain ⟨M2, e2, q2⟩ := m_way (T := T.1) (h.2.1.md1 q1) v what
  obtain ⟨r2, z2⟩ := t_X13_way z1 e2
  exact tw_q h r1 (by decide) q1 r2 (by decide) z2 q2 gd_ne4
theorem tw_voice (h : Lst T M A st) (v what : Int) : Twn 120 257 0 [(0, v), (0, what)] M T := by
  obtain ⟨M1, e1, q1⟩ := c_voice (T := T.1) h.2.1.2.2.1.1 v what
  obtain ⟨r1, z1⟩ := t_X11_voice h.1 e1
  obtain ⟨M2, e2, q2⟩ := m_voice (T := T.1) (h.2.1.md1 q1) v what
  obtain ⟨r2, z2⟩ := t_X13_voice z1 e2
  exact tw_q h r1 (by decide) q1 r2 (by decide) z2 q2 gd_ne4
theorem tw_folk (h : Lst T M A st) (f : Int) : Twn 121 258 0 [(0, f)] M T := by
  obtain ⟨M1, e1, q1⟩ := c_folk (T := T.1) h.2.1.2.2.1.1 f
  obtain ⟨r1, z1⟩ := t_X11_folk h.1 e1
  obtain ⟨M2, e2, q2⟩ := m_folk (T := T.1) (h.2.1.md1 q1) f
  obtain ⟨r2, z2⟩ := t_X13_folk z1 e2
  exact tw_q h r1 (by decide) q1 r2 (by decide) z2 q2 gd_ne4
theorem tw_far (h : Lst T M A st) (c t : Int) : Twn 122 260 0 [(0, c), (0, t)] M T := by
  obtain ⟨M1, e1, q1⟩ := c_far (T := T.1) h.2.1.2.2.1.1 c t
  obtain ⟨r1, z1⟩ := t_X11_far h.1 e1
  obtain ⟨M2, e2, q2⟩ := m_far (T := T.1) (h.2.1.md1 q1) c t
  obtain ⟨r2, z2⟩ := t_X13_far z1 e2
  exact tw_q h r1 (by decide) q1 r2 (by decide) z2 q2 gd_ne4
theorem tw_next (h : Lst T M A st) (c t : Int) : Twn 123 261 0 [(0, c), (0, t)] M T := by
  obtain ⟨M1, e1, q1⟩ := c_next (T := T.1) h.2.1.2.2.1.1 c t
  obtain ⟨r1, z1⟩ := t_X11_next h.1 e1
  obtain ⟨M2, e2, q2⟩ := m_next (T := T.1) (h.2.1.md1 q1) c t
  obtain ⟨r2, z2⟩ := t_X13_next z1 e2
  exact tw_q h r1 (by decide) q1 r2 (by decide) z2 q2 gd_ne4
theorem tw_hearers (h : Lst T M A st) (v : Int) : Twn 124 262 0 [(0, v)] M T := by
  obtain ⟨M1, e1, q1⟩ := c_hearers (T := T.1) h.2.1.2.2.1.1 v
  obtain ⟨r1, z1⟩ := t_X11_hearers h.1 e1
  obtain ⟨M2, e2, q2⟩ := m_hearers (T := T.1) (h.2.1.md1 q1) v
  obtain ⟨r2, z2⟩ := t_X13_hearers z1 e2
  exact tw_q h r1 (by decide) q1 r2 (by decide) z2 q2 gd_ne4
theorem tw_heardFrom (h : Lst T M A st) (c : Int) : Twn 125 264 0 [(0, c)] M T := by
  obtain ⟨M1, e1, q1⟩ := c_heardFrom (T := T.1) h.2.1.2.2.1.1 c
  obtain ⟨r1, z1⟩ := t_X11_heardFrom h.1 e1
  obtain ⟨M2, e2, q2⟩ := m_heardFrom (T := T.1) (h.2.1.md1 q1) c
  obtain ⟨r2, z2⟩ := t_X13_heardFrom z1 e2
  exact tw_q h r1 (by decide) q1 r2 (by decide) z2 q2 gd_ne4
theorem tw_parts (h : Lst T M A st) : Twn 126 265 0 [] M T := by
  obtain ⟨M1, e1, q1⟩ := c_parts (T := T.1) h.2.1.2.2.1.1
  obtain ⟨r1, z1⟩ := t_X11_parts h.1 e1
  obtain ⟨M2, e2, q2⟩ := m_parts (T := T.1) (h.2.1.md1 q1)
  obtain ⟨r2, z2⟩ := t_X13_parts z1 e2
  exact tw_q h r1 (by decide) q1 r2 (by decide) z2 q2 gd_ne4
theorem tw_farthest (h : Lst T M A st) (c : Int) : Twn 127 266 0 [(0, c)] M T := by
  obtain ⟨M1, e1, q1⟩ := c_farthest (T := T.1) h.2.1.2.2.1.1 c
  obtain ⟨r1, z1⟩ := t_X11_farthest h.1 e1
  obtain ⟨M2, e2, q2⟩ := m_farthest (T := T.1) (h.2.1.md1 q1) c
  obtain ⟨r2, z2⟩ := t_X13_farthest z1 e2
  exact tw_q h r1 (by decide) q1 r2 (by decide) z2 q2 gd_ne4
theorem tw_neck (h : Lst T M A st) : Twn 128 268 0 [] M T := by
  obtain ⟨M1, e1, q1⟩ := c_neck (T := T.1) h.2.1.2.2.1.1
  obtain ⟨r1, z1⟩ := t_X11_neck h.1 e1
  obtain ⟨M2, e2, q2⟩ := m_neck (T := T.1) (h.2.1.md1 q1)
  obtain ⟨r2, z2⟩ := t_X13_neck z1 e2
  exact tw_q h r1 (by decide) q1 r2 (by decide) z2 q2 gd_ne4
theorem tw_after (h : Lst T M A st) (v n : Int) : Twn 129 270 0 [(0, v), (0, n)] M T := by
  obtain ⟨M1, e1, q1⟩ := c_after (T := T.1) h.2.1.2.2.1.1 v n
  obtain ⟨r1, z1⟩ := t_X11_after h.1 e1
  obtain ⟨M2, e2, q2⟩ := m_after (T := T.1) (h.2.1.md1 q1) v n
  obtain ⟨r2, z2⟩ := t_X13_after z1 e2
  exact tw_q h r1 (by decide) q1 r2 (by decide) z2 q2 if_ne4
theorem tw_comes (h : Lst T M A st) (v c : Int) : Twn 130 271 0 [(0, v), (0, c)] M T := by
  obtain ⟨M1, e1, q1⟩ := c_comes (T := T.1) h.2.1.2.2.1.1 v c
  obtain ⟨r1, z1⟩ := t_X11_comes h.1 e1
  obtain ⟨M2, e2, q2⟩ := m_comes (T := T.1) (h.2.1.md1 q1) v c
  obtain ⟨r2, z2⟩ := t_X13_comes z1 e2
  exact tw_q h r1 (by decide) q1 r2 (by decide) z2 q2 gd_ne4
theorem tw_meets (h : Lst T M A st) (v u : Int) : Twn 131 272 0 [(0, v), (0, u)] M T := by
  obtain ⟨M1, e1, q1⟩ := c_meets (T := T.1) h.2.1.2.2.1.1 v u
  obtain ⟨r1, z1⟩ := t_X11_meets h.1 e1
  obtain ⟨M2, e2, q2⟩ := m_meets (T := T.1) (h.2.1.md1 q1) v u
  obtain ⟨r2, z2⟩ := t_X13_meets z1 e2
  exact tw_q h r1 (by decide) q1 r2 (by decide) z2 q2 gd_ne4
theorem tw_silentIn (h : Lst T M A st) (v : Int) : Twn 132 273 0 [(0, v)] M T := by
  obtain ⟨M1, e1, q1⟩ := c_silentIn (T := T.1) h.2.1.2.2.1.1 v
  obtain ⟨r1, z1⟩ := t_X11_silentIn h.1 e1
  obtain ⟨M2, e2, q2⟩ := m_silentIn (T := T.1) (h.2.1.md1 q1) v
  obtain ⟨r2, z2⟩ := t_X13_silentIn z1 e2
  exact tw_q h r1 (by decide) q1 r2 (by decide) z2 q2 gd_ne4
theorem tw_settles (h : Lst T M A st) (v : Int) : Twn 133 276 0 [(0, v)] M T := by
  obtain ⟨M1, e1, q1⟩ := c_settles (T := T.1) h.2.1.2.2.1.1 v
  obtain ⟨r1, z1⟩ := t_X11_settles h.1 e1
  obtain ⟨M2, e2, q2⟩ := m_settles (T := T.1) (h.2.1.md1 q1) v
  obtain ⟨r2, z2⟩ := t_X13_settles z1 e2
  exact tw_q h r1 (by decide) q1 r2 (by decide) z2 q2 gd_ne4
theorem tw_round (h : Lst T M A st) (v : Int) : Twn 134 277 0 [(0, v)] M T := by
  obtain ⟨M1, e1, q1⟩ := c_round (T := T.1) h.2.1.2.2.1.1 v
  obtain ⟨r1, z1⟩ := t_X11_round h.1 e1
  obtain ⟨M2, e2, q2⟩ := m_round (T := T.1) (h.2.1.md1 q1) v
  obtain ⟨r2, z2⟩ := t_X13_round z1 e2
  exact tw_q h r1 (by decide) q1 r2 (by decide) z2 q2 gd_ne4
theorem tw_called (h : Lst T M A st) (v c : Int) : Twn 135 278 0 [(0, v), (0, c)] M T := by
  obtain ⟨M1, e1, q1⟩ := c_called (T := T.1) h.2.1.2.2.1.1 v c
  obtain ⟨r1, z1⟩ := t_X11_called h.1 e1
  obtain ⟨M2, e2, q2⟩ := m_called (T := T.1) (h.2.1.md1 q1) v c
  obtain ⟨r2, z2⟩ := t_X13_called z1 e2
  exact tw_q h r1 (by decide) q1 r2 (by decide) z2 q2 gd_ne4
theorem tw_bring (h : Lst T M A st) (v c : Int) : Twn 136 281 0 [(0, v), (0, c)] M T := by
  obtain ⟨M1, e1, q1⟩ := c_bring (T := T.1) h.2.1.2.2.1.1 v c
  obtain ⟨r1, z1⟩ := t_X11_bring h.1 e1
  obtain ⟨M2, e2, q2⟩ := m_bring (T := T.1) (h.2.1.md1 q1) v c
  obtain ⟨r2, z2⟩ := t_X13_bring z1 e2
  exact tw_q h r1 (by decide) q1 r2 (by decide) z2 q2 gd_ne4
theorem tw_bringAt (h : Lst T M A st) (v c i : Int) : Twn 137 282 0 [(0, v), (0, c), (0, i)] M T := by
  obtain ⟨M1, e1, q1⟩ := c_bringAt (T := T.1) h.2.1.2.2.1.1 v c i
  obtain ⟨r1, z1⟩ := t_X11_bringAt h.1 e1
  obtain ⟨M2, e2, q2⟩ := m_bringAt (T := T.1) (h.2.1.md1 q1) v c i
  obtain ⟨r2, z2⟩ := t_X13_bringAt z1 e2
  exact tw_q h r1 (by decide) q1 r2 (by decide) z2 q2 gd_ne4
theorem tw_reach (h : Lst T M A st) (v : Int) : Twn 138 283 0 [(0, v)] M T := by
  obtain ⟨M1, e1, q1⟩ := c_reach (T := T.1) h.2.1.2.2.1.1 v
  obtain ⟨r1, z1⟩ := t_X11_reach h.1 e1
  obtain ⟨M2, e2, q2⟩ := m_reach (T := T.1) (h.2.1.md1 q1) v
  obtain ⟨r2, z2⟩ := t_X13_reach z1 e2
  exact tw_q h r1 (by decide) q1 r2 (by decide) z2 q2 gd_ne4
theorem tw_echo (h : Lst T M A st) (v c : Int) : Twn 139 284 0 [(0, v), (0, c)] M T := by
  obtain ⟨M1, e1, q1⟩ := c_echo (T := T.1) h.2.1.2.2.1.1 v c
  obtain ⟨r1, z1⟩ := t_X11_echo h.1 e1
  obtain ⟨M2, e2, q2⟩ := m_echo (T := T.1) (h.2.1.md1 q1) v c
  obtain ⟨r2, z2⟩ := t_X13_echo z1 e2
  exact tw_q h r1 (by decide) q1 r2 (by decide) z2 q2 gd_ne4
theorem tw_fits (h : Lst T M A st) : Twn 140 288 0 [] M T := by
  obtain ⟨M1, e1, q1⟩ := c_fits (T := T.1) h.2.1.2.2.1.1
  obtain ⟨r1, z1⟩ := t_X11_fits h.1 e1
  obtain ⟨M2, e2, q2⟩ := m_fits (T := T.1) (h.2.1.md1 q1)
  obtain ⟨r2, z2⟩ := t_X13_fits z1 e2
  exact tw_q h r1 (by decide) q1 r2 (by decide) z2 q2 gd_ne4
theorem tw_odds (h : Lst T M A st) (c lo : Int) : Twn 141 289 1 [(0, c), (0, lo)] M T := by
  obtain ⟨M1, e1, q1⟩ := c_odds (T := T.1) h.2.1.2.2.1.1 c lo
  obtain ⟨r1, z1⟩ := t_X11_odds h.1 e1
  obtain ⟨M2, e2, q2⟩ := m_odds (T := T.1) (h.2.1.md1 q1) c lo
  obtain ⟨r2, z2⟩ := t_X13_odds z1 e2
  exact tw_q h r1 (by decide) q1 r2 (by decide) z2 q2 gd_ne4
theorem tw_likeliest (h : Lst T M A st) : Twn 142 290 0 [] M T := by
  obtain ⟨M1, e1, q1⟩ := c_likeliest (T := T.1) h.2.1.2.2.1.1
  obtain ⟨r1, z1⟩ := t_X11_likeliest h.1 e1
  obtain ⟨M2, e2, q2⟩ := m_likeliest (T := T.1) (h.2.1.md1 q1)
  obtain ⟨r2, z2⟩ := t_X13_likeliest z1 e2
  exact tw_q h r1 (by decide) q1 r2 (by decide) z2 q2 gd_ne4
theorem tw_stone (h : Lst T M A st) : Twn 143 292 0 [] M T := by
  obtain ⟨M1, e1, q1⟩ := c_stone (T := T.1) h.2.1.2.2.1.1
  obtain ⟨r1, z1⟩ := t_X11_stone h.1 e1
  obtain ⟨M2, e2, q2⟩ := m_stone (T := T.1) (h.2.1.md1 q1)
  obtain ⟨r2, z2⟩ := t_X13_stone z1 e2
  exact tw_q h r1 (by decide) q1 r2 (by decide) z2 q2 gd_ne4
theorem tw_stoneLeaves (h : Lst T M A st) : Twn 144 293 0 [] M T := by
  obtain ⟨M1, e1, q1⟩ := c_stoneLeaves (T := T.1) h.2.1.2.2.1.1
  obtain ⟨r1, z1⟩ := t_X11_stoneLeaves h.1 e1
  obtain ⟨M2, e2, q2⟩ := m_stoneLeaves (T := T.1) (h.2.1.md1 q1)
  obtain ⟨r2, z2⟩ := t_X13_stoneLeaves z1 e2
  exact tw_q h r1 (by decide) q1 r2 (by decide) z2 q2 gd_ne4
theorem tw_judge (h : Lst T M A st) : Twn 145 294 0 [] M T := by
  obtain ⟨M1, e1, q1⟩ := c_judge (T := T.1) h.2.1.2.2.1.1
  obtain ⟨r1, z1⟩ := t_X11_judge h.1 e1
  obtain ⟨M2, e2, q2⟩ := m_judge (T := T.1) (h.2.1.md1 q1)
  obtain ⟨r2, z2⟩ := t_X13_judge z1 e2
  exact tw_q h r1 (by decide) q1 r2 (by decide) z2 q2 gd_ne4
theorem tw_nets (h : Lst T M A st) : Twn 146 298 0 [] M T := by
  obtain ⟨M1, e1, q1⟩ := c_nets (T := T.1) h.2.1.2.2.1.1
  obtain ⟨r1, z1⟩ := t_X11_nets h.1 e1
  obtain ⟨M2, e2, q2⟩ := m_nets (T := T.1) (h.2.1.md1 q1)
  obtain ⟨r2, z2⟩ := t_X13_nets z1 e2
  exact tw_q h r1 (by decide) q1 r2 (by decide) z2 q2 gd_ne4
theorem tw_netAt (h : Lst T M A st) (i : Int) : Twn 147 299 0 [(0, i)] M T := by
  obtain ⟨M1, e1, q1⟩ := c_netAt (T := T.1) h.2.1.2.2.1.1 i
  obtain ⟨r1, z1⟩ := t_X11_netAt h.1 e1
  obtain ⟨M2, e2, q2⟩ := m_netAt (T := T.1) (h.2.1.md1 q1) i
  obtain ⟨r2, z2⟩ := t_X13_netAt z1 e2
  exact tw_q h r1 (by decide) q1 r2 (by decide) z2 q2 gd_ne4
theorem tw_dryBy (h : Lst T M A st) (k : Int) : Twn 148 300 0 [(0, k)] M T := by
  obtain ⟨M1, e1, q1⟩ := c_dryBy (T := T.1) h.2.1.2.2.1.1 k
  obtain ⟨r1, z1⟩ := t_X11_dryBy h.1 e1
  obtain ⟨M2, e2, q2⟩ := m_dryBy (T := T.1) (h.2.1.md1 q1) k
  obtain ⟨r2, z2⟩ := t_X13_dryBy z1 e2
  exact tw_q h r1 (by decide) q1 r2 (by decide) z2 q2 gd_ne4
theorem tw_liar (h : Lst T M A st) : Twn 149 301 0 [] M T := by
  obtain ⟨M1, e1, q1⟩ := c_liar (T := T.1) h.2.1.2.2.1.1
  obtain ⟨r1, z1⟩ := t_X11_liar h.1 e1
  obtain ⟨M2, e2, q2⟩ := m_liar (T := T.1) (h.2.1.md1 q1)
  obtain ⟨r2, z2⟩ := t_X13_liar z1 e2
  exact tw_q h r1 (by decide) q1 r2 (by decide) z2 q2 gd_ne4
theorem tw_chase (h : Lst T M A st) (o v : Int) : Twn 150 305 0 [(0, o), (0, v)] M T := by
  obtain ⟨M1, e1, q1⟩ := c_chase (T := T.1) h.2.1.2.2.1.1 o v
  obtain ⟨r1, z1⟩ := t_X11_chase h.1 e1
  obtain ⟨M2, e2, q2⟩ := m_chase (T := T.1) (h.2.1.md1 q1) o v
  obtain ⟨r2, z2⟩ := t_X13_chase z1 e2
  exact tw_q h r1 (by decide) q1 r2 (by decide) z2 q2 gd_ne4
theorem tw_chaseBy (h : Lst T M A st) (o v : Int) : Twn 151 306 0 [(0, o), (0, v)] M T := by
  obtain ⟨M1, e1, q1⟩ := c_chaseBy (T := T.1) h.2.1.2.2.1.1 o v
  obtain ⟨r1, z1⟩ := t_X11_chaseBy h.1 e1
  obtain ⟨M2, e2, q2⟩ := m_chaseBy (T := T.1) (h.2.1.md1 q1) o v
  obtain ⟨r2, z2⟩ := t_X13_chaseBy z1 e2
  exact tw_q h r1 (by decide) q1 r2 (by decide) z2 q2 gd_ne4
theorem tw_answers (h : Lst T M A st) (f p b o : Int) : Twn 152 309 0 [(0, f), (0, p), (0, b), (0, o)] M T := by
  obtain ⟨M1, e1, q1⟩ := c_answers (T := T.1) h.2.1.2.2.1.1 f p b o
  obtain ⟨r1, z1⟩ := t_X11_answers h.1 e1
  obtain ⟨M2, e2, q2⟩ := m_answers (T := T.1) (h.2.1.md1 q1) f p b o
  obtain ⟨r2, z2⟩ := t_X13_answers z1 e2
  exact tw_q h r1 (by decide) q1 r2 (by decide) z2 q2 fw_ne4
theorem tw_rests (h : Lst T M A st) (f : Int) : Twn 153 311 0 [(0, f)] M T := by
  obtain ⟨M1, e1, q1⟩ := c_rests (T := T.1) h.2.1.2.2.1.1 f
  obtain ⟨r1, z1⟩ := t_X11_rests h.1 e1
  obtain ⟨M2, e2, q2⟩ := m_rests (T := T.1) (h.2.1.md1 q1) f
  obtain ⟨r2, z2⟩ := t_X13_rests z1 e2
  exact tw_q h r1 (by decide) q1 r2 (by decide) z2 q2 fw_ne4
theorem tw_rest (h : Lst T M A st) (f : Int) : Twn 154 312 0 [(0, f)] M T := by
  obtain ⟨M1, e1, q1⟩ := c_rest (T := T.1) h.2.1.2.2.1.1 f
  obtain ⟨r1, z1⟩ := t_X11_rest h.1 e1
  obtain ⟨M2, e2, q2⟩ := m_rest (T := T.1) (h.2.1.md1 q1) f
  obtain ⟨r2, z2⟩ := t_X13_rest z1 e2
  exact tw_q h r1 (by decide) q1 r2 (by decide) z2 q2 fw_ne4
theorem tw_within (h : Lst T M A st) (c t much lo : Int) : Twn 155 314 1 [(0, c), (0, t), (0, much), (0, lo)] M T := by
  obtain ⟨M1, e1, q1⟩ := c_within (T := T.1) h.2.1.2.2.1.1 c t much lo
  obtain ⟨r1, z1⟩ := t_X11_within h.1 e1
  obtain ⟨M2, e2, q2⟩ := m_within (T := T.1) (h.2.1.md1 q1) c t much lo
  obtain ⟨r2, z2⟩ := t_X13_within z1 e2
  exact tw_q h r1 (by decide) q1 r2 (by decide) z2 q2 if_ne4
theorem tw_mean (h : Lst T M A st) (c lo : Int) : Twn 156 315 1 [(0, c), (0, lo)] M T := by
  obtain ⟨M1, e1, q1⟩ := c_mean (T := T.1) h.2.1.2.2.1.1 c lo
  obtain ⟨r1, z1⟩ := t_X11_mean h.1 e1
  obtain ⟨M2, e2, q2⟩ := m_mean (T := T.1) (h.2.1.md1 q1) c lo
  obtain ⟨r2, z2⟩ := t_X13_mean z1 e2
  exact tw_q h r1 (by decide) q1 r2 (by decide) z2 q2 gd_ne4
theorem tw_farBy (h : Lst T M A st) (c t x : Int) : Twn 157 317 0 [(0, c), (0, t), (0, x)] M T := by
  obtain ⟨M1, e1, q1⟩ := c_farBy (T := T.1) h.2.1.2.2.1.1 c t x
  obtain ⟨r1, z1⟩ := t_X11_farBy h.1 e1
  obtain ⟨M2, e2, q2⟩ := m_farBy (T := T.1) (h.2.1.md1 q1) c t x
  obtain ⟨r2, z2⟩ := t_X13_farBy z1 e2
  exact tw_q h r1 (by decide) q1 r2 (by decide) z2 q2 if_ne4
theorem tw_open (h : Lst T M A st) (c t x m : Int) : Twn 158 318 0 [(0, c), (0, t), (0, x), (0, m)] M T := by
  obtain ⟨M1, e1, q1⟩ := c_open (T := T.1) h.2.1.2.2.1.1 c t x m
  obtain ⟨r1, z1⟩ := t_X11_open h.1 e1
  obtain ⟨M2, e2, q2⟩ := m_open (T := T.1) (h.2.1.md1 q1) c t x m
  obtain ⟨r2, z2⟩ := t_X13_open z1 e2
  exact tw_q h r1 (by decide) q1 r2 (by decide) z2 q2 if_ne4
theorem tw_year (h : Lst T M A st) : Twn 159 321 0 [] M T := by
  obtain ⟨M1, e1, cc⟩ := c_year (T := T.1) h.2.1.2.2.1
  obtain ⟨r1, z1⟩ := t_X11_year h.1 e1
  obtain ⟨M2, e2, m⟩ := m_year (T := T.1) (h.2.1.2.2.2.1.same (fun n hn => cc.2.2.2.2.2.2 n (by omega)))
  obtain ⟨r2, z2⟩ := t_X13_year z1 e2
  exact tw_a h (gd_year h.2.1.1 h.2.1.2.1) r1 (by decide) cc r2 (by decide) z2 m
theorem tw_call (h : Lst T M A st) (c : Int) : Twn 160 322 0 [(0, c)] M T := by
  obtain ⟨M1, e1, cc⟩ := c_call (T := T.1) h.2.1.2.2.1 c
  obtain ⟨r1, z1⟩ := t_X11_call h.1 e1
  obtain ⟨M2, e2, m⟩ := m_call (T := T.1) (h.2.1.2.2.2.1.same (fun n hn => cc.2.2.2.2.2.2 n (by omega))) c
  obtain ⟨r2, z2⟩ := t_X13_call z1 e2
  exact tw_a h (gd_call h.2.1.1 h.2.1.2.1 c) r1 (by decide) cc r2 (by decide) z2 m
theorem tw_walk (h : Lst T M A st) (f c : Int) : Twn 161 323 0 [(0, f), (0, c)] M T := by
  obtain ⟨M1, e1, cc⟩ := c_walk (T := T.1) h.2.1.2.2.1 f c
  obtain ⟨r1, z1⟩ := t_X11_walk h.1 e1
  obtain ⟨M2, e2, m⟩ := m_walk (T := T.1) (h.2.1.2.2.2.1.same (fun n hn => cc.2.2.2.2.2.2 n (by omega))) f c
  obtain ⟨r2, z2⟩ := t_X13_walk z1 e2
  exact tw_a h (gd_walk h.2.1.1 h.2.1.2.1 f c) r1 (by decide) cc r2 (by decide) z2 m
theorem tw_dig (h : Lst T M A st) (k : Int) : Twn 162 325 0 [(0, k)] M T := by
  obtain ⟨M1, e1, cc⟩ := c_dig (T := T.1) h.2.1.2.2.1 k
  obtain ⟨r1, z1⟩ := t_X11_dig h.1 e1
  obtain ⟨M2, e2, m⟩ := m_dig (T := T.1) (h.2.1.2.2.2.1.same (fun n hn => cc.2.2.2.2.2.2 n (by omega))) k
  obtain ⟨r2, z2⟩ := t_X13_dig z1 e2
  exact tw_a h (gd_dig h.2.1.1 h.2.1.2.1 k) r1 (by decide) cc r2 (by decide) z2 m
theorem tw_flood (h : Lst T M A st) (k : Int) : Twn 163 326 0 [(0, k)] M T := by
  obtain ⟨M1, e1, cc⟩ := c_flood (T := T.1) h.2.1.2.2.1 k
  obtain ⟨r1, z1⟩ := t_X11_flood h.1 e1
  obtain ⟨M2, e2, m⟩ := m_flood (T := T.1) (h.2.1.2.2.2.1.same (fun n hn => cc.2.2.2.2.2.2 n (by omega))) k
  obtain ⟨r2, z2⟩ := t_X13_flood z1 e2
  exact tw_a h (gd_flood h.2.1.1 h.2.1.2.1 k) r1 (by decide) cc r2 (by decide) z2 m
theorem tw_undo (h : Lst T M A st) : Twn 164 327 0 [] M T := by
  obtain ⟨M1, e1, cc⟩ := c_undo (T := T.1) h.2.1.2.2.1 h.2.1.2.1.2.2.2.2.1
  obtain ⟨r1, z1⟩ := t_X11_undo h.1 e1
  obtain ⟨M2, e2, m⟩ := m_undo (T := T.1) (h.2.1.2.2.2.1.same (fun n hn => cc.2.2.2.2.2.2 n (by omega)))
  obtain ⟨r2, z2⟩ := t_X13_undo z1 e2
  exact tw_a h (gd_undo h.2.1.2.1) r1 (by decide) cc r2 (by decide) z2 m
theorem tw_image (h : Lst T M A st) : Twn 165 328 0 [] M T := by
  obtain ⟨M1, e1, cc⟩ := c_image (T := T.1) h.2.1.2.2.1
  obtain ⟨r1, z1⟩ := t_X11_image h.1 e1
  obtain ⟨M2, e2, m⟩ := m_image (T := T.1) (h.2.1.2.2.2.1.same (fun n hn => cc.2.2.2.2.2.2 n (by omega)))
  obtain ⟨r2, z2⟩ := t_X13_image z1 e2
  exact tw_a h (gd_image h.2.1.2.1) r1 (by decide) cc r2 (by decide) z2 m
theorem tw_back (h : Lst T M A st) (i : Int) : Twn 166 329 0 [(0, i)] M T := by
  obtain ⟨M1, e1, cc⟩ := c_back (T := T.1) h.2.1.2.2.1 h.2.1.2.1.2.2.2.2.2 i
  obtain ⟨r1, z1⟩ := t_X11_back h.1 e1
  obtain ⟨M2, e2, m⟩ := m_back (T := T.1) (h.2.1.2.2.2.1.same (fun n hn => cc.2.2.2.2.2.2 n (by omega))) i
  obtain ⟨r2, z2⟩ := t_X13_back z1 e2
  exact tw_a h (gd_back h.2.1.2.1 i) r1 (by decide) cc r2 (by decide) z2 m
theorem sz_eq (h : Lst T M A st) (v : Int) : ∃ y, f_X11_size T.1 v M = some y ∧ f_X13_size T.1 v M = some (y, aup M 138 0 0) := by
  obtain ⟨hS, ⟨hA, hg, ⟨hq, hr, hi, -⟩, ⟨hm, hp, hqq, -⟩, -, ht⟩, -⟩ := h
  obtain ⟨⟨tp, -, t1, t2, -⟩, -⟩ := ht
  have e3 : aup M 138 0 0 138 3 = M 138 3 := aup_ne2 (by decide)
  by_cases h13 : v = 13
  · subst h13
    refine ⟨M 0 1, rfl, ?_⟩
    show some (aup M 138 0 0 138 6, aup M 138 0 0) = _
    rw [aup_ne2 (by decide), t1, t2]
  by_cases hlo : v < 0
  · refine ⟨-1, ?_, ?_⟩
    · unfold f_X11_size b_X11_size_125
      repeat rw [if_neg (by omega)]
      rw [if_pos (by omega)]
    · unfold f_X13_size f_X13_in
      refine c_some (c_neg h13 ?_)
      rw [if_pos hlo]
      rfl
  by_cases hhi : 12 < v
  · refine ⟨-1, ?_, ?_⟩
    · unfold f_X11_size b_X11_size_125
      repeat rw [if_neg (by omega)]
      rw [if_pos (by omega)]
    · unfold f_X13_size f_X13_in
      refine c_some (c_neg h13 ?_)
      rw [if_neg hlo, if_pos hhi]
      rfl
  obtain ⟨n, rfl, hn⟩ : ∃ n : Nat, v = (n : Int) ∧ n < 13 := ⟨v.toNat, by omega, by omega⟩
  have a : ∀ i, i < 8 → M 3 i = (A 0 i : Int) := hq.2.2.1.1
  obtain ⟨b0, b1, b2, -⟩ := hq.2.2.1.2.1
  have s11 : M 35 4 = st.1 11 := hq.2.2.2.1.2.2.2
  have m11 : M 140 11 = st.1 11 := hm.2.2.2 11 (by decide)
  have z0 : ∀ k, k ≠ 0 → aup M 138 0 0 138 k = M 138 k := fun k hk => aup_ne2 hk
  rcases hm.2.2.1 with ⟨h0, h3⟩ | ⟨h0, w, h3, hw, hmw⟩
  · obtain ⟨w0, w1⟩ := hA.2.2.2.2.2.2.2.2.2.1 h0
    obtain ⟨g1, g2, g3⟩ := hg.2.2.2.1 h0
    have neg : aup M 138 0 0 138 3 < 0 := by rw [e3, h3]; decide
    refine ⟨0, ?_, ?_⟩
    · match n, hn with
      | 0, _ => show some (M 2 0) = some 0; rw [b0, w1]; rfl
      | 1, _ => show some (M 2 1) = some 0; rw [b1, w1]; rfl
      | 2, _ => show some (M 2 2) = some 0; rw [b2, w1]; rfl
      | 3, _ => show some (M 3 1) = some 0; rw [a 1 (by decide), w0]; rfl
      | 4, _ => show some (M 3 2) = some 0; rw [a 2 (by decide), w0]; rfl
      | 5, _ => show some (M 3 3) = some 0; rw [a 3 (by decide), w0]; rfl
      | 6, _ => show some (M 3 4) = some 0; rw [a 4 (by decide), w0]; rfl
      | 7, _ => show some (M 3 5) = some 0; rw [a 5 (by decide), w0]; rfl
      | 8, _ => show some (M 3 6) = some 0; rw [a 6 (by decide), w0]; rfl
      | 9, _ => show some (M 3 7) = some 0; rw [a 7 (by decide), w0]; rfl
      | 10, _ => show some (M 35 4) = some 0; rw [s11, g3]
      | 11, _ => show some (M 59 3) = some 0; rw [hr.1, g1]; rfl
      | 12, _ => show some (M 59 4) = some 0; rw [hi.1, g2]; rfl
    · match n, hn with
      | 0, _ => exact if_pos neg
      | 1, _ => exact if_pos neg
      | 2, _ => exact if_pos neg
      | 3, _ => exact if_pos neg
      | 4, _ => exact if_pos neg
      | 5, _ => exact if_pos neg
      | 6, _ => exact if_pos neg
      | 7, _ => exact if_pos neg
      | 8, _ => exact if_pos neg
      | 9, _ => exact if_pos neg
      | 10, _ => exact if_pos neg
      | 11, _ => exact if_pos neg
      | 12, _ => exact if_pos neg
  · have hge := okw_ge hw
    have pos : ¬ aup M 138 0 0 138 3 < 0 := by rw [e3, h3]; omega
    have ok : okW T.1 (aup M 138 0 0 138 3) := by rw [e3, h3]; exact hw
    have at_w : ∀ k, aup M 138 0 0 (aup M 138 0 0 138 3).toNat k = M w k := fun k => by rw [e3, h3, Int.toNat_natCast, aup_nc (by omega)]
    obtain ⟨v0, v1, v2, v3, -, v5, -, v7, v8, v9, v10, v11, -⟩ := hmw.1
    match n, hn with
    | 0, _ => refine ⟨M w 0, ?_, ?_⟩; (show some (M 2 0) = _; rw [b0, v0]); (refine (if_neg pos).trans ((if_pos ok).trans ?_); rw [at_w])
    | 1, _ => refine ⟨M w 1, ?_, ?_⟩; (show some (M 2 1) = _; rw [b1, v1]); (refine (if_neg pos).trans ((if_pos ok).trans ?_); rw [at_w])
    | 2, _ => refine ⟨M w 2, ?_, ?_⟩; (show some (M 2 2) = _; rw [b2, v2]); (refine (if_neg pos).trans ((if_pos ok).trans ?_); rw [at_w])
    | 3, _ => refine ⟨M w 3, ?_, ?_⟩; (show some (M 3 1) = _; rw [a 1 (by decide), v3]); (refine (if_neg pos).trans ((if_pos ok).trans ?_); rw [at_w])
    | 4, _ => refine ⟨M w 5, ?_, ?_⟩; (show some (M 3 2) = _; rw [a 2 (by decide), v5]); (refine (if_neg pos).trans ((if_pos ok).trans ?_); rw [at_w])
    | 5, _ => refine ⟨M w 7, ?_, ?_⟩; (show some (M 3 3) = _; rw [a 3 (by decide), v7]); (refine (if_neg pos).trans ((if_pos ok).trans ?_); rw [at_w])
    | 6, _ => refine ⟨M w 8, ?_, ?_⟩; (show some (M 3 4) = _; rw [a 4 (by decide), v8]); (refine (if_neg pos).trans ((if_pos ok).trans ?_); rw [at_w])
    | 7, _ => refine ⟨M w 9, ?_, ?_⟩; (show some (M 3 5) = _; rw [a 5 (by decide), v9]); (refine (if_neg pos).trans ((if_pos ok).trans ?_); rw [at_w])
    | 8, _ => refine ⟨M w 10, ?_, ?_⟩; (show some (M 3 6) = _; rw [a 6 (by decide), v10]); (refine (if_neg pos).trans ((if_pos ok).trans ?_); rw [at_w])
    | 9, _ => refine ⟨M w 11, ?_, ?_⟩; (show some (M 3 7) = _; rw [a 7 (by decide), v11]); (refine (if_neg pos).trans ((if_pos ok).trans ?_); rw [at_w])
    | 10, _ => refine ⟨M 35 4, rfl, (if_neg pos).trans ?_⟩; show some (aup M 138 0 0 140 11, _) = _; rw [aup_nc (by decide), m11, s11]
    | 11, _ => refine ⟨M 59 3, rfl, (if_neg pos).trans ?_⟩; show some (aup M 138 0 0 138 20, _) = _; rw [z0 20 (by decide), hp.1, hr.1]
    | 12, _ => refine ⟨M 59 4, rfl, (if_neg pos).trans ?_⟩; show some (aup M 138 0 0 138 21, _) = _; rw [z0 21 (by decide), hqq.1, hi.1]
theorem tw_p {j1 j2 K1 K2 : Nat} {as : List aV} {y : Int} (h : Lst T M A st) (r1 : Mr K1 j1 ((2, ((0 : Nat) : Int)) :: as) M (some (0, y)) M T) (k1 : K1 ≤ 16) (r2 : Mr K2 j2 ((2, ((138 : Nat) : Int)) :: as) M (some (0, y)) (aup M 138 0 0) T) (k2 : K2 ≤ 16) (s2 : Sh T.1 (aup M 138 0 0)) : Twn j1 j2 0 as M T :=
  ⟨y, M, aup M 138 0 0, T, fun d hd => r1 d (by omega), fun d hd => r2 d (by omega), rfl, Kp.stay h s2 (h.2.1.asks (sM_fl (by omega))) (aup_nc (by decide))⟩
theorem tw_size (h : Lst T M A st) (v : Int) : Twn 168 331 0 [(0, v)] M T := by
  obtain ⟨y, e1, e2⟩ := sz_eq h v
  obtain ⟨r2, z2⟩ := t_X13_size h.1 e2
  exact tw_p h (t_X11_size h.1 e1) (by decide) r2 (by decide) z2
theorem tw_fault (h : Lst T M A st) : Twn 116 236 0 [] M T := by
  have e : f_X13_fault T.1 M = some (M 16 1, aup M 138 0 0) := by
    show some (aup M 138 0 0 138 12, aup M 138 0 0) = _
    rw [aup_ne2 (by decide), h.2.1.2.2.2.2.2.2.2.2]
  obtain ⟨r2, z2⟩ := t_X13_fault h.1 e
  exact tw_p h (t_X11_fault h.1 rfl) (by decide) r2 (by decide) z2
theorem tw_trouble (h : Lst T M A st) : Twn 169 332 0 [] M T := by
  have e : f_X13_trouble T.1 M = some (M 0 14, aup M 138 0 0) := by
    show some (aup M 138 0 0 138 1, aup M 138 0 0) = _
    rw [aup_ne2 (by decide), h.2.1.2.2.2.2.2.2.1]
  obtain ⟨r2, z2⟩ := t_X13_trouble h.1 e
  exact tw_p h (t_X11_trouble h.1 rfl) (by decide) r2 (by decide) z2
theorem tw_where (h : Lst T M A st) : Twn 117 237 0 [] M T := by
  have e1 : f_X11_where T.1 M = some (if M 0 14 = 4 then M 16 2 else -1) := by
    unfold f_X11_where
    split <;> rfl
  have e : f_X13_where T.1 M = some (if M 0 14 = 4 then M 16 2 else -1, aup M 138 0 0) := by
    show some (aup M 138 0 0 138 2, aup M 138 0 0) = _
    rw [aup_ne2 (by decide), h.2.1.2.2.2.2.2.2.2.1]
  obtain ⟨r2, z2⟩ := t_X13_where h.1 e
  exact tw_p h (t_X11_where h.1 e1) (by decide) r2 (by decide) z2
end Tws
