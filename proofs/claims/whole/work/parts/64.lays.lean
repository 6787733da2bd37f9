/-! ===== the model's square ===== -/
section Lays
variable {A : aA} {T w : Nat} {M : aM} {s : Nat} {dr : Nat → Bool}
def MV (T : Nat) (M : aM) (w : Nat) (A : aA) : Prop := M 138 3 = (w : Int) ∧ okW T (w : Int) ∧ MW M w A
theorem MV.ge (h : MV T M w A) : 154 ≤ w := by have := h.2.1.1; omega
theorem mw_cells {M1 : aM} (h : ∀ k, k < 15 → M1 (w + k) = M (w + k)) (hw : MW M w A) : MW M1 w A := by
  obtain ⟨h1, h2, h3, h4, h5, h6, h7⟩ := hw
  have e0 : M1 w = M w := h 0 (by decide)
  refine ⟨?_, fun k hk => ?_, fun k hk => ?_, fun k hk => ?_, fun k hk => ?_, fun k hk => ?_, fun k hk => ?_⟩
  · rw [e0]; exact h1
  · rw [h 1 (by decide), h 2 (by decide), h 3 (by decide)]; exact h2 k hk
  · rw [h 4 (by decide), h 5 (by decide)]; exact h3 k hk
  · rw [h 6 (by decide)]; exact h4 k hk
  · rw [h 7 (by decide), h 8 (by decide)]; exact h5 k hk
  · rw [h 9 (by decide)]; exact h6 k hk
  · rw [h 10 (by decide), h 11 (by decide)]; exact h7 k hk
theorem mv_ne (h : MV T M w A) {n : Nat} (hn : n < 154 ∧ n ≠ 138) (f : Nat → Int) : MV T (setc M n f) w A := by
  have hg := h.ge
  obtain ⟨h1, h2, h3⟩ := h
  refine ⟨?_, h2, ?_⟩
  · rw [setc_ne (by omega)]; exact h1
  · exact mw_cells (fun k _ => setc_ne (by omega)) h3
theorem mv_aup (h : MV T M w A) {n k : Nat} {v : Int} (hn : n < 154 ∧ (n = 138 → k ≠ 3)) : MV T (aup M n k v) w A := by
  have hg := h.ge
  obtain ⟨h1, h2, h3⟩ := h
  refine ⟨?_, h2, ?_⟩
  · rw [aup_ne (by omega)]; exact h1
  · exact mw_cells (fun k _ => aup_nc (by omega)) h3
theorem aup_setc2 {n m k : Nat} {v : Int} {g : Nat → Int} (h : n ≠ m) : aup (setc M m g) n k v = setc (aup M n k v) m g := by
  rw [aup_eq, aup_eq, setc_ne h, setc_comm (fun e => h e.symm)]
theorem rws_set {g : Nat → Int} {a b v : Nat} {D : Nat → Nat → Nat} (ha : a < 8) (hb : b < 8) : (fun x => if x = 8 * a + b then (v : Int) else rws g 8 D x) = rws g 8 (fun a' b' => if a' = a ∧ b' = b then v else D a' b') := by
  funext x
  unfold rws
  by_cases h : x = 8 * a + b
  · rw [if_pos h, if_pos (by omega)]
    exact congrArg _ (if_pos (by omega)).symm
  · rw [if_neg h]
    split
    · exact congrArg _ (if_neg (by omega)).symm
    · rfl
theorem rws_cong {g : Nat → Int} {n : Nat} {D E : Nat → Nat → Nat} (h : ∀ a b, a < n → b < 8 → D a b = E a b) : rws g n D = rws g n E := by
  funext x
  unfold rws
  split
  · rw [h (x / 8) (x % 8) (by omega) (by omega)]
  · rfl
theorem h_lays2 {v1 v2 : Int} (k : Int → aM → Option (Int × aM)) : l_X13_lays_2 T v1 v2 k FU 0 M = k 64 (setc M 144 (rws (M 144) 8 (fun a b => if a = b then 0 else 9999))) := by
  have hV : ovr (M 144) 64 (fun b => if b / 8 = b % 8 then 0 else 9999) = rws (M 144) 8 (fun a b => if a = b then 0 else 9999) := rfl
  have e0 : setc M 144 (ovr (M 144) 0 (fun b => if b / 8 = b % 8 then 0 else 9999)) = M := by
    have : ovr (M 144) 0 (fun b => if b / 8 = b % 8 then 0 else 9999) = M 144 := funext fun b => if_neg (Nat.not_lt_zero b)
    rw [this, setc_self]
  have h := for_until (fun i n => l_X13_lays_2 T v1 v2 k n (i : Int) (setc M 144 (ovr (M 144) i (fun b => if b / 8 = b % 8 then 0 else 9999)))) (y := k 64 (setc M 144 (rws (M 144) 8 (fun a b => if a = b then 0 else 9999)))) 64 ?_ ?_ (by omega)
  · have h2 : l_X13_lays_2 T v1 v2 k FU ((0 : Nat) : Int) (setc M 144 (ovr (M 144) 0 (fun b => if b / 8 = b % 8 then 0 else 9999))) = _ := h
    rw [e0] at h2
    exact h2
  · intro i n hi
    have hup : ∀ x : Nat, x = (if i / 8 = i % 8 then 0 else 9999) → (fun b => if b = i then (x : Int) else ovr (M 144) i (fun b => if b / 8 = b % 8 then 0 else 9999) b) = ovr (M 144) (i + 1) (fun b => if b / 8 = b % 8 then 0 else 9999) := by
      intro x hx
      funext b
      unfold ovr
      by_cases hb : b = i
      · rw [if_pos hb, if_pos (by omega), hx, hb]
      · rw [if_neg hb]
        split
        · rw [if_pos (by omega)]
        · rw [if_neg (by omega)]
    show l_X13_lays_2 T v1 v2 k (n + 1) (i : Int) _ = l_X13_lays_2 T v1 v2 k n ((i + 1 : Nat) : Int) _
    rw [l_X13_lays_2, show (8 : Int) = ((8 : Nat) : Int) from rfl, adiv_nat (by omega) (by decide), arem_nat (by omega) (by decide)]
    refine c_neg (by omega) ?_
    by_cases hd : i / 8 = i % 8
    · refine c_pos (by omega) (c_ite (by omega) (c_some (c_ite (by omega) ?_)))
      rw [Int.toNat_natCast, aup_setc]
      have := hup 0 (by rw [if_pos hd])
      rw [← this]; rfl
    · refine c_neg (by omega) (c_ite (by omega) (c_some (c_ite (by omega) ?_)))
      rw [Int.toNat_natCast, aup_setc]
      have := hup 9999 (by rw [if_neg hd])
      rw [← this]; rfl
  · intro n
    show l_X13_lays_2 T v1 v2 k (n + 1) ((64 : Nat) : Int) _ = _
    rw [l_X13_lays_2]
    exact c_pos (by omega) (by rw [hV]; rfl)
theorem h_lays40 {v1 v2 : Int} (k : Int → aM → Option (Int × aM)) : l_X13_lays_40 T v1 v2 k FU 0 M = k 8 (setc M 145 (ovr (M 145) 8 (fun _ => 0))) := by
  have e0 : setc M 145 (ovr (M 145) 0 (fun _ => 0)) = M := by
    have : ovr (M 145) 0 (fun _ => 0) = M 145 := funext fun b => if_neg (Nat.not_lt_zero b)
    rw [this, setc_self]
  have h := for_until (fun i n => l_X13_lays_40 T v1 v2 k n (i : Int) (setc M 145 (ovr (M 145) i (fun _ => 0)))) (y := k 8 (setc M 145 (ovr (M 145) 8 (fun _ => 0)))) 8 ?_ ?_ (by omega)
  · have h2 : l_X13_lays_40 T v1 v2 k FU ((0 : Nat) : Int) (setc M 145 (ovr (M 145) 0 (fun _ => 0))) = _ := h
    rw [e0] at h2
    exact h2
  · intro i n hi
    show l_X13_lays_40 T v1 v2 k (n + 1) (i : Int) _ = l_X13_lays_40 T v1 v2 k n ((i + 1 : Nat) : Int) _
    rw [l_X13_lays_40]
    refine c_neg (by omega) (c_ite (by omega) (c_some (c_ite (by omega) ?_)))
    rw [Int.toNat_natCast, aup_setc]
    have : (fun b => if b = i then (0 : Int) else ovr (M 145) i (fun _ => 0) b) = ovr (M 145) (i + 1) (fun _ => 0) := by
      funext b
      unfold ovr
      split
      · rw [if_pos (by omega)]; rfl
      · split
        · rw [if_pos (by omega)]
        · rw [if_neg (by omega)]
    rw [this]; rfl
  · intro n
    show l_X13_lays_40 T v1 v2 k (n + 1) ((8 : Nat) : Int) _ = _
    rw [l_X13_lays_40]
    exact c_pos (by omega) rfl
/-- ways dry, and none of one cave's -/
def drw (A : aA) (s : Nat) (u : Int) (k : Nat) : Bool := dry s k && (!decide ((A 2 k : Int) = u) && !decide ((A 3 k : Int) = u))
theorem drw_none : drw A s (-1) = dry s := by
  funext k
  unfold drw
  rw [decide_eq_false (by omega), decide_eq_false (by omega)]
  cases dry s k <;> rfl
/-- the square by the first ways -/
def dqs (A : aA) (dr : Nat → Bool) (i a b : Nat) : Nat := if a = b then 0 else if (decide (wy A a b < i) && dr (wy A a b)) = true then A 4 (wy A a b) else 9999
theorem dqs_0 : dqs A dr 0 = fun a b => if a = b then 0 else 9999 := by
  funext a b
  unfold dqs
  rw [decide_eq_false (Nat.not_lt_zero _)]; rfl
theorem dqs_end : dqs A dr (A 0 2) = d0 A dr := rfl
theorem dqs_same {i : Nat} (hd : dr i = false) : dqs A dr (i + 1) = dqs A dr i := by
  funext a b
  unfold dqs
  by_cases h : wy A a b = i
  · rw [h, hd, Bool.and_false, Bool.and_false]
  · have : decide (wy A a b < i + 1) = decide (wy A a b < i) := by rw [decide_eq_decide]; omega
    rw [this]
theorem dqs_up (hA : WF A) {i : Nat} (hi : i < A 0 2) (hd : dr i = true) : dqs A dr (i + 1) = fun a b => if a = A 3 i ∧ b = A 2 i then A 4 i else if a = A 2 i ∧ b = A 3 i then A 4 i else dqs A dr i a b := by
  have hw := hA.2.2.1 i hi
  funext a b
  by_cases h : wy A a b = i
  · have hj := (wy_is hA hi a b).mp h
    have e : dqs A dr (i + 1) a b = A 4 i := by
      unfold dqs
      have := jn_lt hA hi hj
      rw [if_neg this.2.2, h, hd, decide_eq_true (by omega)]; rfl
    rw [e]
    rcases hj with ⟨h1, h2⟩ | ⟨h1, h2⟩
    · rw [if_neg (by omega), if_pos ⟨h1.symm, h2.symm⟩]
    · rw [if_pos ⟨h2.symm, h1.symm⟩]
  · have hj : ¬ jn (A 2) (A 3) i a b := fun hj => h ((wy_is hA hi a b).mpr hj)
    have e : dqs A dr (i + 1) a b = dqs A dr i a b := by
      unfold dqs
      have : decide (wy A a b < i + 1) = decide (wy A a b < i) := by rw [decide_eq_decide]; omega
      rw [this]
    rw [e, if_neg (fun h2 => hj (Or.inr ⟨h2.2.symm, h2.1.symm⟩)), if_neg (fun h2 => hj (Or.inl ⟨h2.1.symm, h2.2.symm⟩))]
theorem h_lays61 (hA : WF A) (hm : MV T M w A) (hs : s < 2147483648) {u : Int} {g1 g2 : Nat → Int} (k : Int → aM → Option (Int × aM)) : l_X13_lays_61 T (s : Int) u k FU 0 (setc (setc M 144 (rws g1 8 (fun a b => if a = b then 0 else 9999))) 145 (ovr g2 8 (fun _ => 0))) = k (A 0 2) (setc (setc M 144 (rws g1 8 (d0 A (drw A s u)))) 145 (ovr g2 8 (nr A (drw A s u)))) := by
  have hA8 := hA.1.2.1
  have hA10 := hA.1.2.2.1
  have hg := hm.ge
  have e0 : ovr g2 8 (fun _ => 0) = ovr g2 8 (nrs A (drw A s u) 0) := ovr_cong fun b _ => (nrs_0 b).symm
  rw [e0, ← dqs_0 (A := A) (dr := drw A s u), ← dqs_end]
  refine for_until (fun i n => l_X13_lays_61 T (s : Int) u k n (i : Int) (setc (setc M 144 (rws g1 8 (dqs A (drw A s u) i))) 145 (ovr g2 8 (nrs A (drw A s u) i)))) (A 0 2) ?_ ?_ (by omega)
  · intro i n hi
    have hmi := mv_ne (mv_ne hm (n := 144) (by omega) (rws g1 8 (dqs A (drw A s u) i))) (n := 145) (by omega) (ovr g2 8 (nrs A (drw A s u) i))
    obtain ⟨m1, m2, m3⟩ := hmi
    obtain ⟨q1, q2, q3⟩ := m3.2.1 i hi
    have hwf := hA.2.2.1 i hi
    show l_X13_lays_61 T (s : Int) u k (n + 1) (i : Int) _ = l_X13_lays_61 T (s : Int) u k n ((i + 1 : Nat) : Int) _
    rw [l_X13_lays_61, m1, Int.toNat_natCast, Int.toNat_natCast, q1, q2, q3]
    refine c_ite m2 (c_neg (by rw [m3.1.2.2.2.2.2.1]; omega) (c_ite (by omega) (c_bind (h_bit hs (by omega)) ?_)))
    cases hd : s.testBit i
    · refine c_pos rfl ?_
      by_cases h1 : (A 2 i : Int) = u
      · have hdr : drw A s u i = false := by unfold drw; rw [decide_eq_true h1, Bool.not_true, Bool.false_and, Bool.and_false]
        refine c_pos h1 (c_ite (by omega) ?_)
        rw [nrs_same hdr, dqs_same hdr]; rfl
      · refine c_neg h1 ?_
        by_cases h2 : (A 3 i : Int) = u
        · have hdr : drw A s u i = false := by unfold drw; rw [decide_eq_true h2, Bool.not_true, Bool.and_false, Bool.and_false]
          refine c_pos h2 (c_ite (by omega) ?_)
          rw [nrs_same hdr, dqs_same hdr]; rfl
        · have hdr : drw A s u i = true := by unfold drw dry; rw [hd, decide_eq_false h1, decide_eq_false h2]; rfl
          refine c_neg h2 (c_ite (by omega) (c_ite (by omega) (c_ite (by omega) (c_some (c_ite (by omega) (c_ite (by omega) ?_))))))
          rw [show (8 * (A 2 i : Int) + (A 3 i : Int)).toNat = 8 * A 2 i + A 3 i by omega, show (8 * (A 3 i : Int) + (A 2 i : Int)).toNat = 8 * A 3 i + A 2 i by omega, aup_setc2 (by decide), aup_setc, rws_set (by omega) (by omega)]
          have hmj := mv_ne (mv_ne hm (n := 144) (by omega) (rws g1 8 fun a' b' => if a' = A 2 i ∧ b' = A 3 i then A 4 i else dqs A (drw A s u) i a' b')) (n := 145) (by omega) (ovr g2 8 (nrs A (drw A s u) i))
          obtain ⟨p1, p2, p3⟩ := hmj
          obtain ⟨r1, r2, r3⟩ := p3.2.1 i hi
          rw [p1, Int.toNat_natCast, r3]
          refine c_ite p2 (c_ite (by omega) (c_some (c_ite (by omega) ?_)))
          rw [aup_setc2 (n := 144) (by decide), aup_setc (n := 144), rws_set (by omega) (by omega), ← dqs_up hA hi hdr, setc_at, Int.toNat_natCast, Int.toNat_natCast]
          refine c_some (c_ite (by omega) ?_)
          rw [ovr_at (by omega), ashl_one _ (by omega), aor_nat (nrs_lt _ _) (Nat.pow_lt_pow_right (a := 2) (n := 31) (by decide) (by omega)), aup_setc, setc_at]
          refine c_some (c_ite (by omega) ?_)
          rw [if_neg (by omega), ovr_at (by omega), ashl_one _ (by omega), aor_nat (nrs_lt _ _) (Nat.pow_lt_pow_right (a := 2) (n := 31) (by decide) (by omega)), aup_setc]
          have := nrs_up (dr := drw A s u) hA hi hdr (g := g2)
          rw [if_neg (show ¬ A 3 i = A 2 i by omega)] at this
          rw [this]; rfl
    · have hdr : drw A s u i = false := by unfold drw dry; rw [hd]; rfl
      refine c_neg (by decide) (c_ite (by omega) ?_)
      rw [nrs_same hdr, dqs_same hdr]; rfl
  · intro n
    have hmi := mv_ne (mv_ne hm (n := 144) (by omega) (rws g1 8 (dqs A (drw A s u) (A 0 2)))) (n := 145) (by omega) (ovr g2 8 (nrs A (drw A s u) (A 0 2)))
    show l_X13_lays_61 T (s : Int) u k (n + 1) ((A 0 2 : Nat) : Int) _ = _
    rw [l_X13_lays_61, hmi.1, Int.toNat_natCast]
    refine c_ite hmi.2.1 (c_pos ?_ ?_)
    · rw [hmi.2.2.1.2.2.2.2.2.1]; exact Int.le_refl _
    · rfl
end Lays
