/-! ===== feed ===== -/
section Fed
variable {T : Nat} {M : aM}
/-- five values, and their bytes -/
def fv (v1 v2 v3 v4 v5 : Int) (j : Nat) : Int := if j = 0 then v1 else if j = 1 then v2 else if j = 2 then v3 else if j = 3 then v4 else v5
def fb (V : Nat → Int) (i : Nat) : Int := ai2b (ashr (V (i / 4)) (24 - 8 * ((i % 4 : Nat) : Int)))
/-- bytes put behind the first q -/
def fR (c : Nat) (M M' : aM) (o k : Nat) (q : Nat) (b : Nat → Int) (i : Nat) : Prop := M' o k = ((q + i : Nat) : Int) ∧ (∀ a, a ≠ k → M' o a = M o a) ∧ (∀ m, m ≠ o → m ≠ c → M' m = M m) ∧ (∀ a, a < q → M' c a = M c a) ∧ ∀ j, j < i → M' c (q + j) = b j
theorem fR.step {c o k q i : Nat} {M' : aM} {b : Nat → Int} (hco : c ≠ o) (h : fR c M M' o k q b i) {x y : Int} (hx : x = b i) (hy : y = ((q + i : Nat) : Int) + 1) : fR c M (aup (aup M' c (q + i) x) o k y) o k q b (i + 1) := by
  obtain ⟨h1, h2, h3, h4, h5⟩ := h
  refine ⟨?_, fun a ha => ?_, fun m hm hm2 => ?_, fun a ha => ?_, fun j hj => ?_⟩
  · rw [aup_at, hy]; omega
  · rw [aup_ne2 ha, aup_nc (fun e => hco e.symm)]; exact h2 a ha
  · rw [aup_nc hm, aup_nc hm2]; exact h3 m hm hm2
  · rw [aup_nc hco, aup_ne2 (by omega)]; exact h4 a ha
  · rw [aup_nc hco]
    by_cases e : j = i
    · subst e; rw [aup_at]; exact hx
    · rw [aup_ne2 (by omega)]; exact h5 j (by omega)
theorem c_put {q : Nat} (hq : q + 4 ≤ 900) (h0 : M 0 1 = (q : Int)) (v : Int) : ∃ M', f_X11_putBytes T v M = some (0, M') ∧ fR 1 M M' 0 1 q (fun j => ai2b (ashr v (24 - 8 * (j : Int)))) 4 := by
  have key := for_inv (fun n i s => l_X11_putBytes_3 T v (fun w10 m11 => some (0, m11)) n (24 - 8 * (i : Int)) s) (fun i s => fR 1 M s 0 1 q (fun j => ai2b (ashr v (24 - 8 * (j : Int)))) i) 4 (fun i n s hi hR => ?_) (by decide) M ?_
  · obtain ⟨s', h1, n, h2⟩ := key
    refine ⟨s', ?_, h1⟩
    unfold f_X11_putBytes
    refine Eq.trans h2 ?_
    show l_X11_putBytes_3 T v _ (n + 1) (24 - 8 * 4) s' = _
    rw [l_X11_putBytes_3]
    exact c_pos (by decide) rfl
  · refine ⟨aup (aup s 1 (q + i) (ai2b (ashr v (24 - 8 * (i : Int))))) 0 1 (((q + i : Nat) : Int) + 1), hR.step (by decide) rfl rfl, ?_⟩
    have h1 := hR.1
    show l_X11_putBytes_3 T v _ (n + 1) (24 - 8 * (i : Int)) s = _
    rw [l_X11_putBytes_3, h1, Int.toNat_natCast]
    refine c_neg (by omega) (c_ite (by omega) (c_ite (ai2b_rng _) (c_some ?_)))
    have e : aup s 1 (q + i) (ai2b (ashr v (24 - 8 * (i : Int)))) 0 1 = ((q + i : Nat) : Int) := by rw [aup_nc (by decide)]; exact h1
    rw [e]
    refine c_ite (by omega) (c_some (c_ite (by omega) ?_))
    rw [show 24 - 8 * (i : Int) + -8 = 24 - 8 * ((i + 1 : Nat) : Int) by omega]
  · exact ⟨h0, fun _ _ => rfl, fun _ _ _ => rfl, fun _ _ => rfl, fun j hj => absurd hj (Nat.not_lt_zero j)⟩
theorem fR.join {q i : Nat} {M1 M2 : aM} {b b2 : Nat → Int} (h : fR 1 M M1 0 1 q b i) (h2 : fR 1 M1 M2 0 1 (q + i) b2 4) {b3 : Nat → Int} (e1 : ∀ j, j < i → b j = b3 j) (e2 : ∀ j, j < 4 → b2 j = b3 (i + j)) : fR 1 M M2 0 1 q b3 (i + 4) := by
  obtain ⟨a1, a2, a3, a4, a5⟩ := h
  obtain ⟨c1, c2, c3, c4, c5⟩ := h2
  refine ⟨by rw [c1]; omega, fun a ha => (c2 a ha).trans (a2 a ha), fun m h1 h2 => (c3 m h1 h2).trans (a3 m h1 h2), fun a ha => (c4 a (by omega)).trans (a4 a ha), fun j hj => ?_⟩
  by_cases hji : j < i
  · rw [c4 (q + j) (by omega), a5 j hji]; exact e1 j hji
  · have := c5 (j - i) (by omega)
    rw [show q + i + (j - i) = q + j by omega] at this
    rw [this, e2 (j - i) (by omega), show i + (j - i) = j by omega]
theorem fb_at {V : Nat → Int} {c j : Nat} (hj : j < 4) : ai2b (ashr (V c) (24 - 8 * (j : Int))) = fb V (4 * c + j) := by
  unfold fb
  rw [show (4 * c + j) / 4 = c by omega, show (4 * c + j) % 4 = j by omega]
theorem c_feed {q : Nat} (hq : q ≤ 900) (h0 : M 0 1 = (q : Int)) (v1 v2 v3 v4 v5 : Int) : (880 < q → f_X11_feed T v1 v2 v3 v4 v5 M = some (-1, M)) ∧ (q ≤ 880 → ∃ M', f_X11_feed T v1 v2 v3 v4 v5 M = some (((q + 20 : Nat) : Int), M') ∧ fR 1 M M' 0 1 q (fb (fv v1 v2 v3 v4 v5)) 20) := by
  unfold f_X11_feed
  rw [h0]
  refine ⟨fun h => c_ite (by omega) (c_neg (by omega) rfl), fun h => ?_⟩
  obtain ⟨M1, e1, r1⟩ := c_put (T := T) (M := M) (q := q) (by omega) h0 v1
  obtain ⟨M2, e2, r2⟩ := c_put (T := T) (M := M1) (q := q + 4) (by omega) r1.1 v2
  obtain ⟨M3, e3, r3⟩ := c_put (T := T) (M := M2) (q := q + 4 + 4) (by omega) r2.1 v3
  obtain ⟨M4, e4, r4⟩ := c_put (T := T) (M := M3) (q := q + 4 + 4 + 4) (by omega) r3.1 v4
  obtain ⟨M5, e5, r5⟩ := c_put (T := T) (M := M4) (q := q + 4 + 4 + 4 + 4) (by omega) r4.1 v5
  have j2 := fR.join (b3 := fb (fv v1 v2 v3 v4 v5)) r1 r2 (fun j hj => (fb_at (V := fv v1 v2 v3 v4 v5) (c := 0) hj).trans (by rw [show 4 * 0 + j = j by omega])) (fun j hj => fb_at (V := fv v1 v2 v3 v4 v5) (c := 1) hj)
  have j3 := j2.join r3 (fun _ _ => rfl) (fun j hj => fb_at (V := fv v1 v2 v3 v4 v5) (c := 2) hj)
  have j4 := j3.join r4 (fun _ _ => rfl) (fun j hj => fb_at (V := fv v1 v2 v3 v4 v5) (c := 3) hj)
  have j5 := j4.join r5 (fun _ _ => rfl) (fun j hj => fb_at (V := fv v1 v2 v3 v4 v5) (c := 4) hj)
  refine ⟨M5, c_ite (by omega) (c_pos (by omega) (c_bind e1 (c_bind e2 (c_bind e3 (c_bind e4 (c_bind e5 ?_)))))), j5⟩
  show some (M5 0 1, M5) = _
  rw [j5.1]
theorem m_feed {q : Nat} (hq : q ≤ 900) (h0 : M 138 6 = (q : Int)) (v1 v2 v3 v4 v5 : Int) : (880 < q → f_X13_feed T v1 v2 v3 v4 v5 M = some (-1, aup M 138 0 0)) ∧ (q ≤ 880 → ∃ M', f_X13_feed T v1 v2 v3 v4 v5 M = some (((q + 20 : Nat) : Int), M') ∧ fR 139 (aup M 138 0 0) M' 138 6 q (fb (fv v1 v2 v3 v4 v5)) 20) := by
  have h6 : aup M 138 0 0 138 6 = (q : Int) := by rw [aup_ne2 (by decide)]; exact h0
  refine ⟨fun h => ?_, fun h => ?_⟩
  · unfold f_X13_feed
    refine c_some ?_
    rw [h6]
    exact c_ite (by omega) (c_neg (by omega) rfl)
  · have key := for_inv (fun n i s => l_X13_feed_23 T v1 v2 v3 v4 v5 (fun w60 m62 => some ((m62 138 6), m62)) n (i : Int) s) (fun i s => fR 139 (aup M 138 0 0) s 138 6 q (fb (fv v1 v2 v3 v4 v5)) i) 20 (fun i n s hi hR => ?_) (by decide) (aup M 138 0 0) ?_
    · obtain ⟨s', h1, n, h2⟩ := key
      refine ⟨s', ?_, h1⟩
      unfold f_X13_feed
      refine c_some ?_
      rw [h6]
      refine c_ite (by omega) (c_pos (by omega) (Eq.trans h2 ?_))
      show l_X13_feed_23 T v1 v2 v3 v4 v5 _ (n + 1) 20 s' = _
      rw [l_X13_feed_23]
      refine c_pos (by decide) ?_
      show some (s' 138 6, s') = _
      rw [h1.1]
    · refine ⟨aup (aup s 139 (q + i) (fb (fv v1 v2 v3 v4 v5) i)) 138 6 (((q + i : Nat) : Int) + 1), hR.step (by decide) rfl rfl, ?_⟩
      have h1 := hR.1
      have e : aup s 139 (q + i) (fb (fv v1 v2 v3 v4 v5) i) 138 6 = ((q + i : Nat) : Int) := by rw [aup_nc (by decide)]; exact h1
      have er : arem (i : Int) 4 = ((i % 4 : Nat) : Int) := arem_nat (b := 4) (by omega) (by decide)
      have rng := ai2b_rng (ashr (fv v1 v2 v3 v4 v5 (i / 4)) (24 - 8 * ((i % 4 : Nat) : Int)))
      have go : ∀ v : Int, v = fv v1 v2 v3 v4 v5 (i / 4) → (if aIn (8 * (arem (i : Int) 4)) then if aIn (24 - (8 * (arem (i : Int) 4))) then if 0 ≤ (s 138 6) ∧ (s 138 6) < 900 then if -128 ≤ (ai2b (ashr v (24 - (8 * (arem (i : Int) 4))))) ∧ (ai2b (ashr v (24 - (8 * (arem (i : Int) 4))))) < 128 then (some (aup s 139 ((s 138 6)).toNat (ai2b (ashr v (24 - (8 * (arem (i : Int) 4))))))).bind (fun m54 => if aIn ((m54 138 6) + 1) then (some (aup m54 138 6 ((m54 138 6) + 1))).bind (fun m57 => if aIn ((i : Int) + 1) then l_X13_feed_23 T v1 v2 v3 v4 v5 (fun w60 m62 => some ((m62 138 6), m62)) n ((i : Int) + 1) m57 else none) else none) else none else none else none else none) = l_X13_feed_23 T v1 v2 v3 v4 v5 (fun w60 m62 => some ((m62 138 6), m62)) n ((i + 1 : Nat) : Int) (aup (aup s 139 (q + i) (fb (fv v1 v2 v3 v4 v5) i)) 138 6 (((q + i : Nat) : Int) + 1)) := by
        intro v hv
        subst hv
        rw [er, h1, Int.toNat_natCast]
        have hm : i % 4 < 4 := Nat.mod_lt _ (by decide)
        refine c_ite (by omega) (c_ite (by omega) (c_ite (by omega) (c_ite rng (c_some ?_))))
        have e2 : aup s 139 (q + i) (ai2b (ashr (fv v1 v2 v3 v4 v5 (i / 4)) (24 - 8 * ((i % 4 : Nat) : Int)))) 138 6 = ((q + i : Nat) : Int) := e
        rw [e2]
        exact c_ite (by omega) (c_some (c_ite (by omega) rfl))
      show l_X13_feed_23 T v1 v2 v3 v4 v5 _ (n + 1) (i : Int) s = _
      rw [l_X13_feed_23]
      refine c_neg (by omega) ?_
      by_cases i4 : 4 ≤ i
      · refine c_pos (by omega) ?_
        by_cases i8 : 8 ≤ i
        · refine c_pos (by omega) ?_
          by_cases i12 : 12 ≤ i
          · refine c_pos (by omega) ?_
            by_cases i16 : 16 ≤ i
            · exact c_pos (by omega) (go v5 (by rw [show i / 4 = 4 by omega]; rfl))
            · exact c_neg (by omega) (go v4 (by rw [show i / 4 = 3 by omega]; rfl))
          · exact c_neg (by omega) (go v3 (by rw [show i / 4 = 2 by omega]; rfl))
        · exact c_neg (by omega) (go v2 (by rw [show i / 4 = 1 by omega]; rfl))
      · exact c_neg (by omega) (go v1 (by rw [show i / 4 = 0 by omega]; rfl))
    · exact ⟨h6, fun _ _ => rfl, fun _ _ _ => rfl, fun _ _ => rfl, fun j hj => absurd hj (Nat.not_lt_zero j)⟩
end Fed
